theorem for_up {W I : Nat → DD → Prop} (N : Nat) (hx : ∀ d, I N d → W N d) (hs : ∀ k d, k < N → I k d → (∀ d', I (k + 1) d' → W (k + 1) d') → W k d) : ∀ k d, k ≤ N → I k d → W k d := by
  have key : ∀ n k d, k + n = N → I k d → W k d := by
    intro n
    induction n with
    | zero => intro k d e h; have : k = N := by omega
              subst this; exact hx d h
    | succ n ih => intro k d e h; exact hs k d (by omega) h (fun d' h' => ih (k + 1) d' (by omega) h')
  intro k d hk h
  exact key (N - k) k d (by omega) h
/-! ===== a playing, as numbers: 0 over (0 not yet, else the minute and 1), 1 why, 2 sounded, 3 breath left, 4 played, 5 heard (0 none, else the note and 1) ===== -/
abbrev PL : Type := Nat → Nat → Nat
def pu (P : PL) (f i v : Nat) : PL := fun g j => if g = f ∧ j = i then v else P g j
theorem pu_rd {P : PL} {f i v g j : Nat} : pu P f i v g j = if g = f ∧ j = i then v else P g j := rfl
theorem pu_s {P : PL} {f i v : Nat} : pu P f i v f i = v := by simp [pu]
theorem pu_n {P : PL} {f i v g j : Nat} (h : ¬ (g = f ∧ j = i)) : pu P f i v g j = P g j := if_neg h
def playerS (H : HH) (P : PL) (t : Nat) : Nat := fa_first (fun p => decide (H 8 p = t ∧ 0 < P 3 p)) (nP H)
def finS (P : PL) (t m w : Nat) : PL := pu (pu P 0 t (m + 1)) 1 t w
def noteO (H : HH) (t m : Nat) : Nat := noteN H t (H 0 t) ((m - H 3 t) % rowL (H 0 t) (H 1 t))
def hearS (H : HH) (m : Nat) (P : PL) (t : Nat) : PL :=
  if P 0 t ≠ 0 ∨ m < H 3 t then pu P 5 t 0
  else if P 2 t = lenO H t then pu (finS P t m 0) 5 t 0
  else if playerS H P t = nP H then pu (finS P t m 2) 5 t 0
  else if H 5 (playerS H P t) < noteO H t m then pu (finS (pu (pu P 3 (playerS H P t) (P 3 (playerS H P t) - 1)) 4 (playerS H P t) (P 4 (playerS H P t) + 1)) t m 1) 5 t 0
  else pu (pu (pu (pu P 3 (playerS H P t) (P 3 (playerS H P t) - 1)) 4 (playerS H P t) (P 4 (playerS H P t) + 1)) 2 t (P 2 t + 1)) 5 t (noteO H t m + 1)
def thirdS (H : HH) (P : PL) (a b : Nat) : Nat := fa_first (fun c => decide (c ≠ a ∧ c ≠ b ∧ P 5 c ≠ 0 ∧ P 0 c = 0)) (nT H)
def crossS (H : HH) (m : Nat) (P : PL) (a b : Nat) : PL := if P 5 a ≠ 0 ∧ P 5 a = P 5 b ∧ thirdS H P a b < nT H then finS P (thirdS H P a b) m 3 else P
def crossI (H : HH) (m a : Nat) (P : PL) : Nat → PL := itr (fun j P => crossS H m P a (a + 1 + j)) P
def crossA (H : HH) (m : Nat) (P : PL) : Nat → PL := itr (fun a P => crossI H m a P (nT H - (a + 1))) P
def hearA (H : HH) (m : Nat) (P : PL) : Nat → PL := itr (fun t P => hearS H m P t) P
def minS (H : HH) (m : Nat) (P : PL) : PL := crossA H m (hearA H m P (nT H)) (nT H)
def P0 (H : HH) (sil : Nat) : PL := fun f i => if f = 3 then (if sil.testBit i then 0 else H 6 i) else 0
def runS (H : HH) (sil : Nat) : Nat → PL := itr (fun m P => minS H m P) (P0 H sil)
def playS (H : HH) (sil : Nat) : PL := runS H sil 160
def awayS (H : HH) (P : PL) : Nat := sumN (fun q => if P 1 (H 9 q) = 0 then 0 else 1) (nB H)
def costS (H : HH) (P : PL) : Nat := sumN (fun p => P 4 p * H 7 p) (nP H)
/-! what holds of a playing -/
theorem first_lt {p : Nat → Bool} {n : Nat} (h : fa_first p n < n) : p (fa_first p n) = true := fa_first_yes p n h
theorem first_le (p : Nat → Bool) : ∀ n, fa_first p n ≤ n := by
  intro n
  induction n with
  | zero => exact Nat.le_refl _
  | succ n ih =>
    simp only [fa_first]
    split
    · omega
    · split <;> omega
theorem first_is {p : Nat → Bool} {n k : Nat} (hk : k < n) (hp : p k = true) (hno : ∀ j, j < k → p j = false) : fa_first p n = k := by
  have h1 := first_le p n
  rcases Nat.lt_trichotomy (fa_first p n) k with h | h | h
  · have h2 := first_lt (p := p) (n := n) (by omega)
    rw [hno _ h] at h2; cases h2
  · exact h
  · have := fa_first_no p n k h
    rw [hp] at this; cases this
theorem first_none {p : Nat → Bool} {n : Nat} (hno : ∀ j, j < n → p j = false) : fa_first p n = n := by
  have h1 := first_le p n
  rcases Nat.lt_or_ge (fa_first p n) n with h | h
  · have h2 := first_lt h
    rw [hno _ h] at h2; cases h2
  · omega
theorem player_spec {H : HH} {P : PL} {t : Nat} (h : playerS H P t ≠ nP H) : playerS H P t < nP H ∧ H 8 (playerS H P t) = t ∧ 0 < P 3 (playerS H P t) := by
  have h1 := first_le (fun p => decide (H 8 p = t ∧ 0 < P 3 p)) (nP H)
  have hlt : playerS H P t < nP H := by unfold playerS at h ⊢; omega
  have := first_lt hlt
  simp only [decide_eq_true_eq] at this
  exact ⟨hlt, this.1, this.2⟩
/-- alive tunes have sounded for as long as they run; nothing is beyond its bounds -/
def Pinv (H : HH) (m : Nat) (P : PL) : Prop := (∀ t, t < nT H → P 0 t = 0 → P 2 t = m - H 3 t) ∧ (∀ t, t < nT H → P 2 t ≤ lenO H t) ∧ (∀ t, t < nT H → P 0 t ≤ m ∧ P 1 t ≤ 3) ∧ ∀ p, p < nP H → P 3 p + P 4 p ≤ H 6 p
/-- the same, within minute m, for the tunes from k on as before, for those below as behind it -/
def Pin2 (H : HH) (m k : Nat) (P : PL) : Prop := (∀ t, t < nT H → P 0 t = 0 → P 2 t = if t < k then (m + 1) - H 3 t else m - H 3 t) ∧ (∀ t, t < nT H → P 2 t ≤ lenO H t) ∧ (∀ t, t < nT H → P 0 t ≤ m + 1 ∧ P 1 t ≤ 3) ∧ (∀ p, p < nP H → P 3 p + P 4 p ≤ H 6 p) ∧ (∀ t, t < k → t < nT H → P 5 t ≤ 10) ∧ (∀ t, t < k → t < nT H → P 5 t ≠ 0 → P 0 t = 0)
theorem noteO_le {H : HH} {t m : Nat} (ot : OKt H t) : noteO H t m ≤ 9 := noteN_le ot (Nat.mod_lt _ (rowL_pos ot.2.1))
theorem hear_in2 {H : HH} {m k : Nat} {P : PL} (ok : OKH H) (hk : k < nT H) (h : Pin2 H m k P) : Pin2 H m (k + 1) (hearS H m P k) := by
  obtain ⟨h1, h2, h3, h4, h5, h6⟩ := h
  have ot := ok.tt hk
  have hn := noteO_le (m := m) ot
  have h1k := h1 k hk
  have h2k := h2 k hk
  have h3k := h3 k hk
  rw [if_neg (Nat.lt_irrefl k)] at h1k
  unfold hearS
  split
  · rename_i c
    refine ⟨fun t ht e => ?_, fun t ht => ?_, fun t ht => ?_, fun p hp => ?_, fun t ht hn' => ?_, fun t ht hn' e => ?_⟩
    · rw [pu_n (by omega)] at e ⊢
      rw [h1 t ht e]
      rcases Nat.lt_trichotomy t k with z | z | z
      · rw [if_pos z, if_pos (by omega)]
      · subst z
        rw [if_neg (by omega), if_pos (by omega)]
        rcases c with c | c
        · exact absurd e c
        · omega
      · rw [if_neg (by omega), if_neg (by omega)]
    · rw [pu_n (by omega)]; exact h2 t ht
    · rw [pu_n (by omega), pu_n (by omega)]; exact h3 t ht
    · rw [pu_n (by omega), pu_n (by omega)]; exact h4 p hp
    · rw [pu_rd]; split
      · omega
      · exact h5 t (by omega) hn'
    · rw [pu_rd] at e
      split at e
      · exact absurd rfl e
      · rw [pu_n (by omega)]; exact h6 t (by omega) hn' e
  · rename_i c
    have c0 : P 0 k = 0 := by omega
    have cm : H 3 k ≤ m := by omega
    have h1k := h1k c0
    split
    · refine ⟨fun t ht e => ?_, fun t ht => ?_, fun t ht => ?_, fun p hp => ?_, fun t ht hn' => ?_, fun t ht hn' e => ?_⟩
      · unfold finS at e ⊢
        rw [pu_n (by omega), pu_n (by omega), pu_n (by omega)]
        rw [pu_n (by omega), pu_n (by omega)] at e
        rw [pu_rd] at e
        split at e
        · cases e
        · rw [h1 t ht e]
          have : t ≠ k := by omega
          by_cases z : t < k
          · rw [if_pos z, if_pos (by omega)]
          · rw [if_neg z, if_neg (by omega)]
      · unfold finS; rw [pu_n (by omega), pu_n (by omega), pu_n (by omega)]; exact h2 t ht
      · unfold finS
        rw [pu_n (by omega), pu_n (by omega), pu_n (f := 5) (by omega)]
        have := h3 t ht
        refine ⟨?_, ?_⟩
        · rw [pu_rd]; split <;> omega
        · rw [pu_rd]; split
          · omega
          · rw [pu_n (by omega)]; omega
      · unfold finS; rw [pu_n (by omega), pu_n (by omega), pu_n (by omega), pu_n (by omega), pu_n (by omega), pu_n (by omega)]; exact h4 p hp
      · rw [pu_rd]; split
        · omega
        · unfold finS; rw [pu_n (by omega), pu_n (by omega)]; exact h5 t (by omega) hn'
      · rw [pu_rd] at e
        split at e
        · exact absurd rfl e
        · unfold finS at e ⊢
          rw [pu_n (by omega), pu_n (by omega)] at e
          rw [pu_n (by omega), pu_n (by omega), pu_n (by omega)]; exact h6 t (by omega) hn' e
    · split
      · refine ⟨fun t ht e => ?_, fun t ht => ?_, fun t ht => ?_, fun p hp => ?_, fun t ht hn' => ?_, fun t ht hn' e => ?_⟩
        · unfold finS at e ⊢
          rw [pu_n (by omega), pu_n (by omega), pu_n (by omega)]
          rw [pu_n (by omega), pu_n (by omega)] at e
          rw [pu_rd] at e
          split at e
          · cases e
          · rw [h1 t ht e]
            have : t ≠ k := by omega
            by_cases z : t < k
            · rw [if_pos z, if_pos (by omega)]
            · rw [if_neg z, if_neg (by omega)]
        · unfold finS; rw [pu_n (by omega), pu_n (by omega), pu_n (by omega)]; exact h2 t ht
        · unfold finS
          rw [pu_n (by omega), pu_n (by omega), pu_n (f := 5) (by omega)]
          have := h3 t ht
          refine ⟨?_, ?_⟩
          · rw [pu_rd]; split <;> omega
          · rw [pu_rd]; split
            · omega
            · rw [pu_n (by omega)]; omega
        · unfold finS; rw [pu_n (by omega), pu_n (by omega), pu_n (by omega), pu_n (by omega), pu_n (by omega), pu_n (by omega)]; exact h4 p hp
        · rw [pu_rd]; split
          · omega
          · unfold finS; rw [pu_n (by omega), pu_n (by omega)]; exact h5 t (by omega) hn'
        · rw [pu_rd] at e
          split at e
          · exact absurd rfl e
          · unfold finS at e ⊢
            rw [pu_n (by omega), pu_n (by omega)] at e
            rw [pu_n (by omega), pu_n (by omega), pu_n (by omega)]; exact h6 t (by omega) hn' e
      · rename_i c2 c3
        obtain ⟨hp1, hp2, hp3⟩ := player_spec c3
        have hb := h4 _ hp1
        generalize playerS H P k = p at *
        split
        · refine ⟨fun t ht e => ?_, fun t ht => ?_, fun t ht => ?_, fun p' hp' => ?_, fun t ht hn' => ?_, fun t ht hn' e => ?_⟩
          · unfold finS at e ⊢
            rw [pu_n (by omega), pu_n (by omega), pu_n (by omega), pu_n (by omega), pu_n (by omega)]
            rw [pu_n (by omega), pu_n (by omega)] at e
            rw [pu_rd] at e
            split at e
            · cases e
            · rw [pu_n (by omega), pu_n (by omega)] at e
              rw [h1 t ht e]
              have : t ≠ k := by omega
              by_cases z : t < k
              · rw [if_pos z, if_pos (by omega)]
              · rw [if_neg z, if_neg (by omega)]
          · unfold finS; rw [pu_n (by omega), pu_n (by omega), pu_n (by omega), pu_n (by omega), pu_n (by omega)]; exact h2 t ht
          · unfold finS
            rw [pu_n (by omega), pu_n (by omega), pu_n (f := 5) (by omega)]
            have := h3 t ht
            refine ⟨?_, ?_⟩
            · rw [pu_rd]; split
              · omega
              · rw [pu_n (by omega), pu_n (by omega)]; omega
            · rw [pu_rd]; split
              · omega
              · rw [pu_n (by omega), pu_n (by omega), pu_n (by omega)]; omega
          · have := h4 p' hp'
            by_cases z : p' = p
            · subst z; simp [finS, pu_rd]; omega
            · simp [finS, pu_rd, z]; exact this
          · rw [pu_rd]; split
            · omega
            · unfold finS; rw [pu_n (by omega), pu_n (by omega), pu_n (by omega), pu_n (by omega)]; exact h5 t (by omega) hn'
          · rw [pu_rd] at e
            split at e
            · exact absurd rfl e
            · unfold finS at e ⊢
              rw [pu_n (by omega), pu_n (by omega), pu_n (by omega), pu_n (by omega)] at e
              rw [pu_n (by omega), pu_n (by omega), pu_n (by omega), pu_n (by omega), pu_n (by omega)]; exact h6 t (by omega) hn' e
        · refine ⟨fun t ht e => ?_, fun t ht => ?_, fun t ht => ?_, fun p' hp' => ?_, fun t ht hn' => ?_, fun t ht hn' e => ?_⟩
          · rw [pu_n (by omega), pu_n (by omega), pu_n (by omega), pu_n (by omega)] at e
            rw [pu_n (by omega), pu_rd]
            split
            · rename_i z
              obtain ⟨-, rfl⟩ := z
              rw [if_pos (by omega), h1k]; omega
            · rw [pu_n (by omega), pu_n (by omega), h1 t ht e]
              have : t ≠ k := by omega
              by_cases z : t < k
              · rw [if_pos z, if_pos (by omega)]
              · rw [if_neg z, if_neg (by omega)]
          · rw [pu_n (by omega), pu_rd]
            split
            · rename_i z
              obtain ⟨-, rfl⟩ := z
              omega
            · rw [pu_n (by omega), pu_n (by omega)]; exact h2 t ht
          · rw [pu_n (by omega), pu_n (by omega), pu_n (by omega), pu_n (by omega), pu_n (by omega), pu_n (by omega), pu_n (by omega), pu_n (by omega)]; exact h3 t ht
          · have := h4 p' hp'
            by_cases z : p' = p
            · subst z; simp [finS, pu_rd]; omega
            · simp [finS, pu_rd, z]; exact this
          · rw [pu_rd]; split
            · omega
            · rw [pu_n (by omega), pu_n (by omega), pu_n (by omega)]; exact h5 t (by omega) hn'
          · rw [pu_rd] at e
            rw [pu_n (by omega), pu_n (by omega), pu_n (by omega), pu_n (by omega)]
            split at e
            · rename_i z; rw [z.2]; exact c0
            · rw [pu_n (by omega), pu_n (by omega), pu_n (by omega)] at e
              exact h6 t (by omega) hn' e
/-- within minute m, all have been heard -/
def Pin3 (H : HH) (m : Nat) (P : PL) : Prop := (∀ t, t < nT H → P 0 t = 0 → P 2 t = (m + 1) - H 3 t) ∧ (∀ t, t < nT H → P 2 t ≤ lenO H t) ∧ (∀ t, t < nT H → P 0 t ≤ m + 1 ∧ P 1 t ≤ 3) ∧ (∀ p, p < nP H → P 3 p + P 4 p ≤ H 6 p) ∧ ∀ t, t < nT H → P 5 t ≤ 10
theorem pinv_0 {H : HH} {m : Nat} {P : PL} (h : Pinv H m P) : Pin2 H m 0 P := by
  obtain ⟨h1, h2, h3, h4⟩ := h
  exact ⟨fun t ht e => by rw [if_neg (Nat.not_lt_zero t)]; exact h1 t ht e, h2, fun t ht => ⟨Nat.le_succ_of_le (h3 t ht).1, (h3 t ht).2⟩, h4, fun t h => absurd h (Nat.not_lt_zero t), fun t h => absurd h (Nat.not_lt_zero t)⟩
theorem pin3_of {H : HH} {m : Nat} {P : PL} (h : Pin2 H m (nT H) P) : Pin3 H m P := by
  obtain ⟨h1, h2, h3, h4, h5, h6⟩ := h
  exact ⟨fun t ht e => by have := h1 t ht e; rwa [if_pos ht] at this, h2, h3, h4, fun t ht => h5 t ht ht⟩
theorem pin3_inv {H : HH} {m : Nat} {P : PL} (h : Pin3 H m P) : Pinv H (m + 1) P := ⟨h.1, h.2.1, h.2.2.1, h.2.2.2.1⟩
theorem fin_pin3 {H : HH} {m c w : Nat} {P : PL} (h : Pin3 H m P) (hw : w ≤ 3) : Pin3 H m (finS P c m w) := by
  obtain ⟨h1, h2, h3, h4, h5⟩ := h
  refine ⟨fun t ht e => ?_, fun t ht => ?_, fun t ht => ⟨?_, ?_⟩, fun p hp => ?_, fun t ht => ?_⟩
  · unfold finS at e ⊢
    rw [pu_n (by omega), pu_n (by omega)]
    rw [pu_n (by omega), pu_rd] at e
    split at e
    · cases e
    · exact h1 t ht e
  · simpa [finS, pu_rd] using h2 t ht
  · have := (h3 t ht).1
    simp only [finS, pu_rd]
    split
    · omega
    · split <;> omega
  · have := (h3 t ht).2
    simp only [finS, pu_rd]
    split
    · omega
    · split <;> omega
  · simpa [finS, pu_rd] using h4 p hp
  · simpa [finS, pu_rd] using h5 t ht
theorem cross_pin3 {H : HH} {m a b : Nat} {P : PL} (h : Pin3 H m P) : Pin3 H m (crossS H m P a b) := by
  unfold crossS
  split
  · exact fin_pin3 h (by decide)
  · exact h
theorem itr_ind {σ : Type} {I : σ → Prop} {f : Nat → σ → σ} {s : σ} (h0 : I s) (hs : ∀ k s, I s → I (f k s)) : ∀ n, I (itr f s n) := by
  intro n
  induction n with
  | zero => exact h0
  | succ n ih => exact hs n _ ih
theorem itr_indb {σ : Type} {I : Nat → σ → Prop} {f : Nat → σ → σ} {s : σ} (N : Nat) (h0 : I 0 s) (hs : ∀ k s, k < N → I k s → I (k + 1) (f k s)) : ∀ n, n ≤ N → I n (itr f s n) := by
  intro n
  induction n with
  | zero => intro _; exact h0
  | succ n ih => intro hn; exact hs n _ (by omega) (ih (by omega))
theorem crossI_pin3 {H : HH} {m a n : Nat} {P : PL} (h : Pin3 H m P) : Pin3 H m (crossI H m a P n) := itr_ind h (fun _ _ h => cross_pin3 h) n
theorem crossA_pin3 {H : HH} {m n : Nat} {P : PL} (h : Pin3 H m P) : Pin3 H m (crossA H m P n) := itr_ind h (fun _ _ h => crossI_pin3 h) n
theorem hearA_pin2 {H : HH} {m : Nat} {P : PL} (ok : OKH H) (h : Pinv H m P) : ∀ k, k ≤ nT H → Pin2 H m k (hearA H m P k) := itr_indb (I := fun k P => Pin2 H m k P) (nT H) (pinv_0 h) (fun k s hk h => hear_in2 ok hk h)
theorem minS_inv {H : HH} {m : Nat} {P : PL} (ok : OKH H) (h : Pinv H m P) : Pinv H (m + 1) (minS H m P) := pin3_inv (crossA_pin3 (pin3_of (hearA_pin2 ok h (nT H) (Nat.le_refl _))))
theorem P0_inv {H : HH} {sil : Nat} : Pinv H 0 (P0 H sil) := by
  refine ⟨fun t ht e => ?_, fun t ht => ?_, fun t ht => ?_, fun p hp => ?_⟩
  · simp [P0]
  · simp [P0]
  · simp [P0]
  · simp only [P0]; simp; split <;> omega
theorem runS_inv {H : HH} {sil : Nat} (ok : OKH H) : ∀ k, Pinv H k (runS H sil k) := by
  intro k
  induction k with
  | zero => exact P0_inv
  | succ k ih => exact minS_inv ok ih
/-- behind minute 153 all are over -/
theorem pinv_over {H : HH} {m t : Nat} {P : PL} (ok : OKH H) (h : Pinv H m P) (hm : 154 ≤ m) (ht : t < nT H) : P 0 t ≠ 0 := by
  intro e
  have h1 := h.1 t ht e
  have h2 := h.2.1 t ht
  have ot := ok.tt ht
  have h3 := lenB_le (k := H 0 t) ot
  have h4 := ot.2.2.2.2.2.1
  have : lenO H t ≤ 144 := h3
  omega
/-- a playing in which all are over goes on without a change but of what is heard -/
def Pover (H : HH) (P : PL) : Prop := ∀ t, t < nT H → P 0 t ≠ 0
def Psame (P P' : PL) : Prop := ∀ f i, f ≠ 5 → P f i = P' f i
theorem hear_over {H : HH} {m k : Nat} {P : PL} (h : P 0 k ≠ 0) : hearS H m P k = pu P 5 k 0 := by
  unfold hearS; rw [if_pos (Or.inl h)]
theorem hearA_over {H : HH} {m : Nat} {P : PL} (h : Pover H P) : ∀ k, k ≤ nT H → Psame P (hearA H m P k) ∧ ∀ t, t < k → hearA H m P k 5 t = 0 := by
  intro k
  induction k with
  | zero => intro _; exact ⟨fun _ _ _ => rfl, fun t h => absurd h (Nat.not_lt_zero t)⟩
  | succ k ih =>
    intro hk
    obtain ⟨h1, h2⟩ := ih (by omega)
    have e : hearA H m P (k + 1) = hearS H m (hearA H m P k) k := rfl
    rw [e, hear_over (by rw [← h1 0 k (by decide)]; exact h k (by omega))]
    refine ⟨fun f i hf => ?_, fun t ht => ?_⟩
    · rw [pu_n (by omega)]; exact h1 f i hf
    · rw [pu_rd]; split
      · rfl
      · exact h2 t (by omega)
theorem cross_none {H : HH} {m a b : Nat} {P : PL} (h : P 5 a = 0) : crossS H m P a b = P := by
  unfold crossS; rw [if_neg (fun c => c.1 h)]
theorem crossI_none {H : HH} {m a : Nat} {P : PL} (h : P 5 a = 0) : ∀ n, crossI H m a P n = P := by
  intro n
  induction n with
  | zero => rfl
  | succ n ih => show crossS H m (crossI H m a P n) a (a + 1 + n) = P; rw [ih]; exact cross_none h
theorem crossA_none {H : HH} {m : Nat} {P : PL} (h : ∀ t, t < nT H → P 5 t = 0) : ∀ n, n ≤ nT H → crossA H m P n = P := by
  intro n
  induction n with
  | zero => intro _; rfl
  | succ n ih => intro hn; show crossI H m n (crossA H m P n) _ = P; rw [ih (by omega)]; exact crossI_none (h n (by omega)) _
theorem minS_over {H : HH} {m : Nat} {P : PL} (h : Pover H P) : Psame P (minS H m P) := by
  obtain ⟨h1, h2⟩ := hearA_over (m := m) h (nT H) (Nat.le_refl _)
  unfold minS
  rw [crossA_none h2 _ (Nat.le_refl _)]
  exact h1
theorem runS_over {H : HH} {sil m : Nat} (h : Pover H (runS H sil m)) : ∀ k, Psame (runS H sil m) (runS H sil (m + k)) := by
  intro k
  induction k with
  | zero => exact fun _ _ _ => rfl
  | succ k ih =>
    have h2 : Pover H (runS H sil (m + k)) := fun t ht => by rw [← ih 0 t (by decide)]; exact h t ht
    intro f i hf
    rw [ih f i hf]
    exact minS_over (m := m + k) h2 f i hf
