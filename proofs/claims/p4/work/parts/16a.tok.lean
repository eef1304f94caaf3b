/-! ===== tokens, purely ===== -/
def scn (P : Nat → Bool) (n : Nat) : Nat → Nat → Nat
  | 0, i => i
  | k + 1, i => if i < n ∧ P i = true then scn P n k (i + 1) else i
/-- the first place from i on that is n or has not P -/
def sc (P : Nat → Bool) (n i : Nat) : Nat := scn P n (n - i) i
theorem sc_go {P : Nat → Bool} {n i : Nat} (h : i < n) (hp : P i = true) : sc P n i = sc P n (i + 1) := by
  unfold sc
  rw [show n - i = (n - (i + 1)) + 1 by omega]
  show (if i < n ∧ P i = true then _ else _) = _
  rw [if_pos ⟨h, hp⟩]
theorem sc_stop {P : Nat → Bool} {n i : Nat} (h : ¬ (i < n ∧ P i = true)) : sc P n i = i := by
  unfold sc
  cases hk : n - i with
  | zero => rfl
  | succ k => show (if i < n ∧ P i = true then _ else _) = _; rw [if_neg h]
theorem sc_all {P : Nat → Bool} {n : Nat} : ∀ k i, n - i = k → i ≤ sc P n i ∧ (i ≤ n → sc P n i ≤ n) ∧ (∀ j, i ≤ j → j < sc P n i → P j = true) ∧ ¬ (sc P n i < n ∧ P (sc P n i) = true) := by
  intro k
  induction k with
  | zero =>
    intro i hk
    have e : sc P n i = i := sc_stop (fun z => by omega)
    rw [e]
    exact ⟨Nat.le_refl _, fun h => h, fun j h1 h2 => by omega, fun z => by omega⟩
  | succ k ih =>
    intro i hk
    by_cases h : i < n ∧ P i = true
    · rw [sc_go h.1 h.2]
      obtain ⟨a1, a2, a3, a4⟩ := ih (i + 1) (by omega)
      refine ⟨by omega, fun _ => a2 (by omega), fun j h1 h2 => ?_, a4⟩
      by_cases e : j = i
      · rw [e]; exact h.2
      · exact a3 j (by omega) h2
    · rw [sc_stop h]
      exact ⟨Nat.le_refl _, fun h => h, fun j h1 h2 => by omega, h⟩
theorem sc_ge {P : Nat → Bool} {n i : Nat} : i ≤ sc P n i := (sc_all _ i rfl).1
theorem sc_le {P : Nat → Bool} {n i : Nat} (h : i ≤ n) : sc P n i ≤ n := (sc_all _ i rfl).2.1 h
theorem sc_in {P : Nat → Bool} {n i j : Nat} (h1 : i ≤ j) (h2 : j < sc P n i) : P j = true := (sc_all _ i rfl).2.2.1 j h1 h2
def isBl (f : Nat → Nat) (j : Nat) : Bool := decide (f j = 32)
def isLe (f : Nat → Nat) (j : Nat) : Bool := decide (97 ≤ f j ∧ f j ≤ 122)
def isDi (f : Nat → Nat) (j : Nat) : Bool := decide (48 ≤ f j ∧ f j ≤ 57)
/-- the value of k figures from p on -/
def vlN (f : Nat → Nat) (p : Nat) : Nat → Nat
  | 0 => 0
  | k + 1 => vlN f p k * 10 + (f (p + k) - 48)
/-- the token behind i: its place, kind (0 end, 1 name, 2 number, 3 sign, 4 none), the place behind it, its value -/
def tP (f : Nat → Nat) (n i : Nat) : Nat := sc (isBl f) n i
def kAt (f : Nat → Nat) (n p : Nat) : Nat := if p < n then (if isLe f p = true then 1 else if isDi f p = true then (if sc (isDi f) n p - p ≤ 2 then 2 else 4) else if f p = 59 then 3 else 4) else 0
def nAt (f : Nat → Nat) (n p : Nat) : Nat := if p < n then (if isLe f p = true then sc (isLe f) n p else if isDi f p = true then sc (isDi f) n p else p + 1) else p
def tK (f : Nat → Nat) (n i : Nat) : Nat := kAt f n (tP f n i)
def tN (f : Nat → Nat) (n i : Nat) : Nat := nAt f n (tP f n i)
def tV (f : Nat → Nat) (n i : Nat) : Nat := vlN f (tP f n i) (tN f n i - tP f n i)
theorem tP_ge {f : Nat → Nat} {n i : Nat} : i ≤ tP f n i := sc_ge
theorem tP_le {f : Nat → Nat} {n i : Nat} (h : i ≤ n) : tP f n i ≤ n := sc_le h
theorem nAt_ge {f : Nat → Nat} {n p : Nat} : p ≤ nAt f n p := by
  unfold nAt
  split
  · split
    · exact sc_ge
    · split
      · exact sc_ge
      · omega
  · exact Nat.le_refl _
theorem nAt_le {f : Nat → Nat} {n p : Nat} (h : p ≤ n) : nAt f n p ≤ n := by
  unfold nAt
  split
  · split
    · exact sc_le h
    · split
      · exact sc_le h
      · omega
  · exact h
theorem nAt_gt {f : Nat → Nat} {n p : Nat} (h : p < n) : p < nAt f n p := by
  unfold nAt
  rw [if_pos h]
  split
  · rename_i z; rw [sc_go h z]; exact Nat.lt_of_lt_of_le (Nat.lt_succ_self p) sc_ge
  · split
    · rename_i z; rw [sc_go h z]; exact Nat.lt_of_lt_of_le (Nat.lt_succ_self p) sc_ge
    · omega
theorem tN_le {f : Nat → Nat} {n i : Nat} (h : i ≤ n) : tN f n i ≤ n := nAt_le (tP_le h)
theorem tN_ge {f : Nat → Nat} {n i : Nat} : tP f n i ≤ tN f n i := nAt_ge
theorem tK0 {f : Nat → Nat} {n i : Nat} (h : i ≤ n) : tK f n i = 0 ↔ tP f n i = n := by
  have := tP_le (f := f) h
  unfold tK kAt
  constructor
  · intro z
    by_cases c : tP f n i < n
    · rw [if_pos c] at z
      split at z
      · omega
      · split at z
        · split at z <;> omega
        · split at z <;> omega
    · omega
  · intro z
    rw [if_neg (by omega)]
theorem tN_gt {f : Nat → Nat} {n i : Nat} (h : i ≤ n) (hk : tK f n i ≠ 0) : i < tN f n i := by
  have h1 := tP_ge (f := f) (n := n) (i := i)
  have h2 := tP_le (f := f) h
  have h3 : tP f n i ≠ n := fun z => hk ((tK0 h).mpr z)
  have := nAt_gt (f := f) (show tP f n i < n by omega)
  unfold tN
  omega
theorem tK_le {f : Nat → Nat} {n i : Nat} : tK f n i ≤ 4 := by
  unfold tK kAt
  split
  · split
    · omega
    · split
      · split <;> omega
      · split <;> omega
  · omega
/-- a number: its figures, one or two -/
theorem tK2 {f : Nat → Nat} {n i : Nat} (hk : tK f n i = 2) : tP f n i < n ∧ isDi f (tP f n i) = true ∧ tN f n i = sc (isDi f) n (tP f n i) ∧ tN f n i - tP f n i ≤ 2 ∧ ∀ j, tP f n i ≤ j → j < tN f n i → 48 ≤ f j ∧ f j ≤ 57 := by
  unfold tK kAt at hk
  by_cases c : tP f n i < n
  · rw [if_pos c] at hk
    by_cases c2 : isLe f (tP f n i) = true
    · rw [if_pos c2] at hk; omega
    · rw [if_neg c2] at hk
      by_cases c3 : isDi f (tP f n i) = true
      · rw [if_pos c3] at hk
        have e : tN f n i = sc (isDi f) n (tP f n i) := by
          unfold tN nAt
          rw [if_pos c, if_neg c2, if_pos c3]
        refine ⟨c, c3, e, ?_, fun j h1 h2 => ?_⟩
        · rw [e]
          split at hk
          · assumption
          · omega
        · rw [e] at h2
          exact of_decide_eq_true (sc_in h1 h2)
      · rw [if_neg c3] at hk
        split at hk <;> omega
  · rw [if_neg c] at hk; omega
theorem vlN_lt {f : Nat → Nat} {p : Nat} : ∀ k, (∀ j, p ≤ j → j < p + k → 48 ≤ f j ∧ f j ≤ 57) → vlN f p k < 10 ^ k := by
  intro k
  induction k with
  | zero => intro _; exact Nat.one_pos
  | succ k ih =>
    intro h
    have h1 := ih (fun j a b => h j a (by omega))
    have h2 := h (p + k) (by omega) (by omega)
    show vlN f p k * 10 + (f (p + k) - 48) < 10 ^ (k + 1)
    rw [Nat.pow_succ]
    omega
theorem tV_lt {f : Nat → Nat} {n i : Nat} (hk : tK f n i = 2) : tV f n i < 100 := by
  obtain ⟨h1, h2, h3, h4, h5⟩ := tK2 hk
  have h6 := tN_ge (f := f) (n := n) (i := i)
  have h7 := vlN_lt (f := f) (p := tP f n i) (tN f n i - tP f n i) (fun j a b => h5 j a (by omega))
  have h8 : 10 ^ (tN f n i - tP f n i) ≤ 10 ^ 2 := Nat.pow_le_pow_right (by decide) h4
  unfold tV
  omega
/-! where a reading stands: at a place, or at a FAULT (its number, its place) -/
abbrev Sg : Type := Sum (Nat × Nat) Nat
def sNum (f : Nat → Nat) (n lo hi i : Nat) : Sg := if tK f n i = 4 then .inl (1, tP f n i) else if tK f n i = 2 then (if lo ≤ tV f n i ∧ tV f n i ≤ hi then .inr (tN f n i) else .inl (3, tP f n i)) else .inl (2, tP f n i)
def sSgn (f : Nat → Nat) (n i : Nat) : Sg := if tK f n i = 4 then .inl (1, tP f n i) else if tK f n i = 3 then .inr (tN f n i) else .inl (2, tP f n i)
def sB (g : Nat → Sg) : Sg → Sg
  | .inl e => .inl e
  | .inr i => g i
def okE (n : Nat) (e : Nat × Nat) : Prop := 1 ≤ e.1 ∧ e.1 ≤ 6 ∧ e.2 ≤ n
def okS (n : Nat) : Sg → Prop
  | .inl e => okE n e
  | .inr i => i ≤ n
theorem sNum_ok {f : Nat → Nat} {n lo hi i : Nat} (h : i ≤ n) : okS n (sNum f n lo hi i) := by
  have hp := tP_le (f := f) h
  unfold sNum
  split
  · exact ⟨Nat.le_of_ble_eq_true rfl, Nat.le_of_ble_eq_true rfl, hp⟩
  · split
    · split
      · exact tN_le h
      · exact ⟨Nat.le_of_ble_eq_true rfl, Nat.le_of_ble_eq_true rfl, hp⟩
    · exact ⟨Nat.le_of_ble_eq_true rfl, Nat.le_of_ble_eq_true rfl, hp⟩
theorem sSgn_ok {f : Nat → Nat} {n i : Nat} (h : i ≤ n) : okS n (sSgn f n i) := by
  have hp := tP_le (f := f) h
  unfold sSgn
  split
  · exact ⟨Nat.le_of_ble_eq_true rfl, Nat.le_of_ble_eq_true rfl, hp⟩
  · split
    · exact tN_le h
    · exact ⟨Nat.le_of_ble_eq_true rfl, Nat.le_of_ble_eq_true rfl, hp⟩
theorem sB_ok {n : Nat} {g : Nat → Sg} {σ : Sg} (h : okS n σ) (hg : ∀ i, i ≤ n → okS n (g i)) : okS n (sB g σ) := by
  cases σ with
  | inl e => exact h
  | inr i => exact hg i h
