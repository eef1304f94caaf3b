section
/-! ===== tokens, purely ===== -/
def scn (P : Nat → Bool) (n : Nat) : Nat → Nat → Nat
  | 0, i => i
  | k + 1, i => if i < n ∧ P i = true then scn P n k (i + 1) else i
/-- the first place from i on that is n or has not P -/
def sc (P : Nat → Bool) (n i : Nat) : Nat := scn P n (n - i) i
theorem sc_go {P : Nat → Bool} {n i : Nat} (h : i < n) (hp : P i = true) : sc P n i = sc P n (i + 1) := by
  unfold sc
  rw [show n - i = (n - (i + 1)) + 1 by omega]
  show (if i < n ∧ P i = true then _ else _) = _
  rw [if_pos ⟨h, hp⟩]
theorem sc_stop {P : Nat → Bool} {n i : Nat} (h : ¬ (i < n ∧ P i = true)) : sc P n i = i := by
  unfold sc
  cases hk : n - i with
  | zero => rfl
  | succ k => show (if i < n ∧ P i = true then _ else _) = _; rw [if_neg h]
theorem sc_all {P : Nat → Bool} {n : Nat} : ∀ k i, n - i = k → i ≤ sc P n i ∧ (i ≤ n → sc P n i ≤ n) ∧ (∀ j, i ≤ j → j < sc P n i → P j = true) ∧ ¬ (sc P n i < n ∧ P (sc P n i) = true) := by
  intro k
  induction k with
  | zero =>
    intro i hk
    have e : sc P n i = i := sc_stop (fun z => by omega)
    rw [e]
    exact ⟨Nat.le_refl _, fun h => h, fun j h1 h2 => by omega, fun z => by omega⟩
  | succ k ih =>
    intro i hk
    by_cases h : i < n ∧ P i = true
    · rw [sc_go h.1 h.2]
      obtain ⟨a1, a2, a3, a4⟩ := ih (i + 1) (by omega)
      refine ⟨by omega, fun _ => a2 (by omega), fun j h1 h2 => ?_, a4⟩
      by_cases e : j = i
      · rw [e]; exact h.2
      · exact a3 j (by omega) h2
    · rw [sc_stop h]
      exact ⟨Nat.le_refl _, fun h => h, fun j h1 h2 => by omega, h⟩
theorem sc_ge {P : Nat → Bool} {n i : Nat} : i ≤ sc P n i := (sc_all _ i rfl).1
theorem sc_le {P : Nat → Bool} {n i : Nat} (h : i ≤ n) : sc P n i ≤ n := (sc_all _ i rfl).2.1 h
theorem sc_in {P : Nat → Bool} {n i j : Nat} (h1 : i ≤ j) (h2 : j < sc P n i) : P j = true := (sc_all _ i rfl).2.2.1 j h1 h2
def isBl (f : Nat → Nat) (j : Nat) : Bool := decide (f j = 32)
def isLe (f : Nat → Nat) (j : Nat) : Bool := decide (97 ≤ f j ∧ f j ≤ 122)
def isDi (f : Nat → Nat) (j : Nat) : Bool := decide (48 ≤ f j ∧ f j ≤ 57)
/-- the value of k figures from p on -/
def vlN (f : Nat → Nat) (p : Nat) : Nat → Nat
  | 0 => 0
  | k + 1 => vlN f p k * 10 + (f (p + k) - 48)
/-- the token behind i: its place, kind (0 end, 1 name, 2 number, 3 sign, 4 none), the place behind it, its value -/
def tP (f : Nat → Nat) (n i : Nat) : Nat := sc (isBl f) n i
def kAt (f : Nat → Nat) (n p : Nat) : Nat := if p < n then (if isLe f p = true then 1 else if isDi f p = true then (if sc (isDi f) n p - p ≤ 2 then 2 else 4) else if f p = 59 then 3 else 4) else 0
def nAt (f : Nat → Nat) (n p : Nat) : Nat := if p < n then (if isLe f p = true then sc (isLe f) n p else if isDi f p = true then sc (isDi f) n p else p + 1) else p
def tK (f : Nat → Nat) (n i : Nat) : Nat := kAt f n (tP f n i)
def tN (f : Nat → Nat) (n i : Nat) : Nat := nAt f n (tP f n i)
def tV (f : Nat → Nat) (n i : Nat) : Nat := vlN f (tP f n i) (tN f n i - tP f n i)
theorem tP_ge {f : Nat → Nat} {n i : Nat} : i ≤ tP f n i := sc_ge
theorem tP_le {f : Nat → Nat} {n i : Nat} (h : i ≤ n) : tP f n i ≤ n := sc_le h
theorem nAt_ge {f : Nat → Nat} {n p : Nat} : p ≤ nAt f n p := by
  unfold nAt
  split
  · split
    · exact sc_ge
    · split
      · exact sc_ge
      · omega
  · exact Nat.le_refl _
theorem nAt_le {f : Nat → Nat} {n p : Nat} (h : p ≤ n) : nAt f n p ≤ n := by
  unfold nAt
  split
  · split
    · exact sc_le h
    · split
      · exact sc_le h
      · omega
  · exact h
theorem nAt_gt {f : Nat → Nat} {n p : Nat} (h : p < n) : p < nAt f n p := by
  unfold nAt
  rw [if_pos h]
  split
  · rename_i z; rw [sc_go h z]; exact Nat.lt_of_lt_of_le (Nat.lt_succ_self p) sc_ge
  · split
    · rename_i z; rw [sc_go h z]; exact Nat.lt_of_lt_of_le (Nat.lt_succ_self p) sc_ge
    · omega
theorem tN_le {f : Nat → Nat} {n i : Nat} (h : i ≤ n) : tN f n i ≤ n := nAt_le (tP_le h)
theorem tN_ge {f : Nat → Nat} {n i : Nat} : tP f n i ≤ tN f n i := nAt_ge
theorem tK0 {f : Nat → Nat} {n i : Nat} (h : i ≤ n) : tK f n i = 0 ↔ tP f n i = n := by
  have := tP_le (f := f) h
  unfold tK kAt
  constructor
  · intro z
    by_cases c : tP f n i < n
    · rw [if_pos c] at z
      split at z
      · omega
      · split at z
        · split at z <;> omega
        · split at z <;> omega
    · omega
  · intro z
    rw [if_neg (by omega)]
theorem tN_gt {f : Nat → Nat} {n i : Nat} (h : i ≤ n) (hk : tK f n i ≠ 0) : i < tN f n i := by
  have h1 := tP_ge (f := f) (n := n) (i := i)
  have h2 := tP_le (f := f) h
  have h3 : tP f n i ≠ n := fun z => hk ((tK0 h).mpr z)
  have := nAt_gt (f := f) (show tP f n i < n by omega)
  unfold tN
  omega
theorem tK_le {f : Nat → Nat} {n i : Nat} : tK f n i ≤ 4 := by
  unfold tK kAt
  split
  · split
    · omega
    · split
      · split <;> omega
      · split <;> omega
  · omega
/-- a number: its figures, one or two -/
theorem tK2 {f : Nat → Nat} {n i : Nat} (hk : tK f n i = 2) : tP f n i < n ∧ isDi f (tP f n i) = true ∧ tN f n i = sc (isDi f) n (tP f n i) ∧ tN f n i - tP f n i ≤ 2 ∧ ∀ j, tP f n i ≤ j → j < tN f n i → 48 ≤ f j ∧ f j ≤ 57 := by
  unfold tK kAt at hk
  by_cases c : tP f n i < n
  · rw [if_pos c] at hk
    by_cases c2 : isLe f (tP f n i) = true
    · rw [if_pos c2] at hk; omega
    · rw [if_neg c2] at hk
      by_cases c3 : isDi f (tP f n i) = true
      · rw [if_pos c3] at hk
        have e : tN f n i = sc (isDi f) n (tP f n i) := by
          unfold tN nAt
          rw [if_pos c, if_neg c2, if_pos c3]
        refine ⟨c, c3, e, ?_, fun j h1 h2 => ?_⟩
        · rw [e]
          split at hk
          · assumption
          · omega
        · rw [e] at h2
          exact of_decide_eq_true (sc_in h1 h2)
      · rw [if_neg c3] at hk
        split at hk <;> omega
  · rw [if_neg c] at hk; omega
theorem vlN_lt {f : Nat → Nat} {p : Nat} : ∀ k, (∀ j, p ≤ j → j < p + k → 48 ≤ f j ∧ f j ≤ 57) → vlN f p k < 10 ^ k := by
  intro k
  induction k with
  | zero => intro _; exact Nat.one_pos
  | succ k ih =>
    intro h
    have h1 := ih (fun j a b => h j a (by omega))
    have h2 := h (p + k) (by omega) (by omega)
    show vlN f p k * 10 + (f (p + k) - 48) < 10 ^ (k + 1)
    rw [Nat.pow_succ]
    omega
theorem tV_lt {f : Nat → Nat} {n i : Nat} (hk : tK f n i = 2) : tV f n i < 100 := by
  obtain ⟨h1, h2, h3, h4, h5⟩ := tK2 hk
  have h6 := tN_ge (f := f) (n := n) (i := i)
  have h7 := vlN_lt (f := f) (p := tP f n i) (tN f n i - tP f n i) (fun j a b => h5 j a (by omega))
  have h8 : 10 ^ (tN f n i - tP f n i) ≤ 10 ^ 2 := Nat.pow_le_pow_right (by decide) h4
  unfold tV
  omega
/-! where a reading stands: at a place, or at a FAULT (its number, its place) -/
abbrev Sg : Type := Sum (Nat × Nat) Nat
def sNum (f : Nat → Nat) (n lo hi i : Nat) : Sg := if tK f n i = 4 then .inl (1, tP f n i) else if tK f n i = 2 then (if lo ≤ tV f n i ∧ tV f n i ≤ hi then .inr (tN f n i) else .inl (3, tP f n i)) else .inl (2, tP f n i)
def sSgn (f : Nat → Nat) (n i : Nat) : Sg := if tK f n i = 4 then .inl (1, tP f n i) else if tK f n i = 3 then .inr (tN f n i) else .inl (2, tP f n i)
def sB (g : Nat → Sg) : Sg → Sg
  | .inl e => .inl e
  | .inr i => g i
def okE (n : Nat) (e : Nat × Nat) : Prop := 1 ≤ e.1 ∧ e.1 ≤ 6 ∧ e.2 ≤ n
def okS (n : Nat) : Sg → Prop
  | .inl e => okE n e
  | .inr i => i ≤ n
theorem sNum_ok {f : Nat → Nat} {n lo hi i : Nat} (h : i ≤ n) : okS n (sNum f n lo hi i) := by
  have hp := tP_le (f := f) h
  unfold sNum
  split
  · exact ⟨Nat.le_of_ble_eq_true rfl, Nat.le_of_ble_eq_true rfl, hp⟩
  · split
    · split
      · exact tN_le h
      · exact ⟨Nat.le_of_ble_eq_true rfl, Nat.le_of_ble_eq_true rfl, hp⟩
    · exact ⟨Nat.le_of_ble_eq_true rfl, Nat.le_of_ble_eq_true rfl, hp⟩
theorem sSgn_ok {f : Nat → Nat} {n i : Nat} (h : i ≤ n) : okS n (sSgn f n i) := by
  have hp := tP_le (f := f) h
  unfold sSgn
  split
  · exact ⟨Nat.le_of_ble_eq_true rfl, Nat.le_of_ble_eq_true rfl, hp⟩
  · split
    · exact tN_le h
    · exact ⟨Nat.le_of_ble_eq_true rfl, Nat.le_of_ble_eq_true rfl, hp⟩
theorem sB_ok {n : Nat} {g : Nat → Sg} {σ : Sg} (h : okS n σ) (hg : ∀ i, i ≤ n → okS n (g i)) : okS n (sB g σ) := by
  cases σ with
  | inl e => exact h
  | inr i => exact hg i h
end
section
/-! ===== the class reads tokens ===== -/
/-- the tape, and what isn't the tape's nor the told house's -/
def XB (f : Nat → Nat) (n : Nat) (x0 d : DD) : Prop := n ≤ 160 ∧ (∀ i, i < n → f i ≤ 127) ∧ d 36 1 = nI n ∧ (∀ i, i < n → d 37 i = nI (f i)) ∧ ∀ a, a ≠ 36 → (a < 12 ∨ 22 < a) → d a = x0 a
theorem XB.up36 {f : Nat → Nat} {n j : Nat} {x0 d : DD} {v : Int32} (h : XB f n x0 d) (hj : j ≠ 1) : XB f n x0 (up d 36 j v) := by
  obtain ⟨h1, h2, h3, h4, h5⟩ := h
  exact ⟨h1, h2, by rw [up_n (by omega)]; exact h3, fun i hi => by rw [up_ne 37 (by omega)]; exact h4 i hi, fun a ha hb => by rw [up_ne a (by omega)]; exact h5 a ha hb⟩
theorem XB.upH {f : Nat → Nat} {n a0 j : Nat} {x0 d : DD} {v : Int32} (h : XB f n x0 d) (h1 : 12 ≤ a0) (h2 : a0 ≤ 22) : XB f n x0 (up d a0 j v) := by
  obtain ⟨g1, g2, g3, g4, g5⟩ := h
  exact ⟨g1, g2, by rw [up_n (by omega)]; exact g3, fun i hi => by rw [up_ne 37 (by omega)]; exact g4 i hi, fun a ha hb => by rw [up_ne a (by omega)]; exact g5 a ha hb⟩
/-- the tokens' fields but the FAULT -/
def XTk (f : Nat → Nat) (n i : Nat) (d : DD) : Prop := d 36 4 = nI (tK f n i) ∧ d 36 5 = nI (tP f n i) ∧ d 36 6 = nI (tN f n i)
/-- what of the class isn't touched by reading a token: all but the cell 36; there 1, 2, 3 -/
def XTf (d d' : DD) : Prop := (∀ a, a ≠ 36 → d' a = d a) ∧ ∀ j, j < 4 → d' 36 j = d 36 j
theorem XTf.rf {d : DD} : XTf d d := ⟨fun _ _ => rfl, fun _ _ => rfl⟩
theorem XTf.tr {a b c : DD} (h : XTf a b) (h2 : XTf b c) : XTf a c := ⟨fun x hx => (h2.1 x hx).trans (h.1 x hx), fun j hj => (h2.2 j hj).trans (h.2 j hj)⟩
theorem XTf.up {d : DD} {j : Nat} {v : Int32} (h : 4 ≤ j) : XTf d (up d 36 j v) := ⟨fun a ha => up_ne a (by omega), fun i hi => up_n (by omega)⟩
theorem XB.tf {f : Nat → Nat} {n : Nat} {x0 d d' : DD} (h : XB f n x0 d) (t : XTf d d') : XB f n x0 d' := by
  obtain ⟨h1, h2, h3, h4, h5⟩ := h
  exact ⟨h1, h2, by rw [t.2 1 (by omega)]; exact h3, fun i hi => by rw [t.1 37 (by omega)]; exact h4 i hi, fun a ha hb => by rw [t.1 a ha]; exact h5 a ha hb⟩
theorem X_wlh {q : Int32 → DD → Prop} {d : DD} {w : Nat} (lo hi : Nat) (hw : w < 2 ^ 31) (hl : lo < 2 ^ 31) (hh : hi < 2 ^ 31) (h1 : lo ≤ w ∧ w ≤ hi → q 1 d) (h0 : ¬ (lo ≤ w ∧ w ≤ hi) → q 0 d) : Cn SX MX4_within [.int (nI w), .int (nI lo), .int (nI hi)] d (rI q) :=
  X_within (fun a b => h1 ⟨(nI_leI hl hw).mp a, (nI_leI hw hh).mp b⟩) (fun z => h0 (fun y => z ⟨(nI_leI hl hw).mpr y.1, (nI_leI hw hh).mpr y.2⟩))
theorem X_pass {q : DD → Prop} {x0 : DD} {f : Nat → Nat} {n lo hi : Nat} (hl : lo ≤ 127) (hh : hi ≤ 127) (P : Nat → Bool) (hP : ∀ j, P j = decide (lo ≤ f j ∧ f j ≤ hi)) : ∀ k i d, n - i = k → i ≤ n → XB f n x0 d → d 36 6 = nI i → (∀ d', XTf d d' → (∀ j, j ≠ 6 → d' 36 j = d 36 j) → d' 36 6 = nI (sc P n i) → q d') → Cn SX MX3_pass [.ref 36, .int (nI lo), .int (nI hi)] d (rV q) := by
  suffices hs : ∀ k i d, n - i = k → i ≤ n → XB f n x0 d → d 36 6 = nI i → (∀ d', XTf d d' → (∀ j, j ≠ 6 → d' 36 j = d 36 j) → d' 36 6 = nI (sc P n i) → q d') → Ev SX MX3_pass 0 [.ref 36, .int (nI lo), .int (nI hi)] [] d (rV q) from fun k i d h1 h2 h3 h4 h5 => cn_X3_pass (hs k i d h1 h2 h3 h4 h5)
  intro k
  induction k with
  | zero =>
    intro i d hk hi9 hB h6 h
    obtain ⟨b1, b2, b3, b4, b5⟩ := id hB
    refine bk_X3_pass_0 (br_t ?_ (h d XTf.rf (fun _ _ => rfl) ?_))
    · rw [b3, h6]; exact nI_le (by omega) (by omega)
    · rw [sc_stop (fun z => by omega)]; exact h6
  | succ k ih =>
    intro i d hk hi9 hB h6 h
    obtain ⟨b1, b2, b3, b4, b5⟩ := id hB
    have hin : i < n := by omega
    refine bk_X3_pass_0 (br_f ?_ ?_)
    · rw [b3, h6]; exact fun c => absurd ((nI_leI (by omega) (by omega)).mp c) (by omega)
    rw [h6]
    refine ⟨vp_in_nI (by omega) (by omega), ?_⟩
    rw [nI_clamp (by omega), b4 i hin]
    have hf := b2 i hin
    by_cases c : lo ≤ f i ∧ f i ≤ hi
    · refine X_wlh lo hi (by omega) (by omega) (by omega) (fun _ => y1' (nm_e ?_)) (fun z => absurd c z)
      rw [h6, nI_1]
      refine ih (i + 1) _ (by omega) (by omega) (hB.up36 (by omega)) up_s (fun d' t1 t2 t3 => h d' ((XTf.up (by omega)).tr t1) (fun j hj => by rw [t2 j hj, up_n (by omega)]) ?_)
      rw [t3, sc_go hin (by rw [hP]; exact decide_eq_true c)]
    · refine X_wlh lo hi (by omega) (by omega) (by omega) (fun z => absurd z c) (fun _ => y0' (h d XTf.rf (fun _ _ => rfl) ?_))
      rw [sc_stop (fun z => c (of_decide_eq_true (by rw [← hP]; exact z.2)))]
      exact h6
theorem X_advance {q : DD → Prop} {x0 : DD} {f : Nat → Nat} {n i : Nat} {d : DD} (hi : i ≤ n) (hB : XB f n x0 d) (h6 : d 36 6 = nI i) (h : ∀ d', XTf d d' → XTk f n i d' → q d') : Cn SX MX3_advance [.ref 36] d (rV q) := by
  obtain ⟨b1, b2, b3, b4, b5⟩ := id hB
  -- behind the blanks
  have k38 : ∀ d1, XTf d d1 → d1 36 6 = nI (tP f n i) → Ev SX MX3_advance 38 [.ref 36] [] d1 (rV q) := by
    intro d1 t1 e6
    have hp := tP_le (f := f) hi
    have hB1 := hB.tf t1
    refine bk_X3_advance_38 (nm_e ?_)
    generalize ed : up d1 36 5 (d1 36 6) = d2
    have t2 : XTf d d2 := t1.tr (by rw [← ed]; exact XTf.up (by omega))
    have f5 : d2 36 5 = nI (tP f n i) := by rw [← ed, up_s, e6]
    have f6 : d2 36 6 = nI (tP f n i) := by rw [← ed, up_n (by omega), e6]
    have hB2 := hB.tf t2
    obtain ⟨-, -, c3, c4, -⟩ := id hB2
    clear ed
    by_cases hlt : tP f n i < n
    · refine br_t (by rw [f6, c3]; exact (nI_ltI (by omega) (by omega)).mpr hlt) ?_
      rw [f6]
      have vp : vp_in (nI (tP f n i)) 160 := vp_in_nI (by omega) (by omega)
      refine ⟨vp, ?_⟩
      rw [nI_clamp (by omega), c4 _ hlt]
      have hf := b2 _ hlt
      by_cases cl : 97 ≤ f (tP f n i) ∧ f (tP f n i) ≤ 122
      · refine X_wlh 97 122 (by omega) (by omega) (by omega) (fun _ => y1' (nm_e ?_)) (fun z => absurd cl z)
        have cl' : isLe f (tP f n i) = true := decide_eq_true cl
        refine X_pass (lo := 97) (hi := 122) (by omega) (by omega) (isLe f) (fun _ => rfl) _ (tP f n i) _ rfl hp (hB2.up36 (by omega)) (by rw [up_n (by omega)]; exact f6) (fun d' u1 u2 u3 => h d' (t2.tr ((XTf.up (by omega)).tr u1)) ⟨?_, ?_, ?_⟩)
        · rw [u2 4 (by omega), up_s]; unfold tK kAt; rw [if_pos hlt, if_pos cl']; rfl
        · rw [u2 5 (by omega), up_n (by omega)]; exact f5
        · rw [u3]; unfold tN nAt; rw [if_pos hlt, if_pos cl']
      · have cl' : ¬ isLe f (tP f n i) = true := fun z => cl (of_decide_eq_true z)
        refine X_wlh 97 122 (by omega) (by omega) (by omega) (fun z => absurd z cl) (fun _ => y0' ⟨by rw [f6]; exact vp, ?_⟩)
        rw [f6, nI_clamp (by omega), c4 _ hlt]
        by_cases cd : 48 ≤ f (tP f n i) ∧ f (tP f n i) ≤ 57
        · have cd' : isDi f (tP f n i) = true := decide_eq_true cd
          refine X_wlh 48 57 (by omega) (by omega) (by omega) (fun _ => y1' ?_) (fun z => absurd cd z)
          refine X_pass (lo := 48) (hi := 57) (by omega) (by omega) (isDi f) (fun _ => rfl) _ (tP f n i) _ rfl hp hB2 f6 (fun d' u1 u2 u3 => ?_)
          have e1 : tN f n i = sc (isDi f) n (tP f n i) := by unfold tN nAt; rw [if_pos hlt, if_neg cl', if_pos cd']
          have h1 := sc_ge (P := isDi f) (n := n) (i := tP f n i)
          have h2 := sc_le (P := isDi f) hp
          have e5 : d' 36 5 = nI (tP f n i) := by rw [u2 5 (by omega)]; exact f5
          rw [u3, e5, pk_sub h1]
          by_cases c2 : sc (isDi f) n (tP f n i) - tP f n i ≤ 2
          · refine br_f (fun z => absurd ((nI_ltI (a := 2) (by omega) (by omega)).mp z) (by omega)) (nm_e (h _ (t2.tr (u1.tr (XTf.up (by omega)))) ⟨?_, ?_, ?_⟩))
            · rw [up_s]; unfold tK kAt; rw [if_pos hlt, if_neg cl', if_pos cd', if_pos c2]; rfl
            · rw [up_n (by omega)]; exact e5
            · rw [up_n (by omega), u3, e1]
          · refine br_t ((nI_ltI (a := 2) (by omega) (by omega)).mpr (by omega)) (nm_e (h _ (t2.tr (u1.tr (XTf.up (by omega)))) ⟨?_, ?_, ?_⟩))
            · rw [up_s]; unfold tK kAt; rw [if_pos hlt, if_neg cl', if_pos cd', if_neg c2]; rfl
            · rw [up_n (by omega)]; exact e5
            · rw [up_n (by omega), u3, e1]
        · have cd' : ¬ isDi f (tP f n i) = true := fun z => cd (of_decide_eq_true z)
          refine X_wlh 48 57 (by omega) (by omega) (by omega) (fun z => absurd z cd) (fun _ => y0' ⟨by rw [f6]; exact vp, ?_⟩)
          rw [f6, nI_clamp (by omega), c4 _ hlt]
          have e1 : tN f n i = tP f n i + 1 := by unfold tN nAt; rw [if_pos hlt, if_neg cl', if_neg cd']
          by_cases cs : f (tP f n i) = 59
          · refine rr_t (by rw [cs]; rfl) (nm_e (nm_e (h _ (t2.tr ((XTf.up (by omega)).tr (XTf.up (by omega)))) ⟨?_, ?_, ?_⟩)))
            · rw [up_n (by omega), up_s]; unfold tK kAt; rw [if_pos hlt, if_neg cl', if_neg cd', if_pos cs]; rfl
            · rw [up_n (by omega), up_n (by omega)]; exact f5
            · rw [up_s, up_n (by omega), f6, nI_1, e1]
          · refine rr_f (lit_ne (b := 59) (by omega) (by omega) cs) (nm_e (nm_e (h _ (t2.tr ((XTf.up (by omega)).tr (XTf.up (by omega)))) ⟨?_, ?_, ?_⟩)))
            · rw [up_n (by omega), up_s]; unfold tK kAt; rw [if_pos hlt, if_neg cl', if_neg cd', if_neg cs]; rfl
            · rw [up_n (by omega), up_n (by omega)]; exact f5
            · rw [up_s, up_n (by omega), f6, nI_1, e1]
    · refine br_f (by rw [f6, c3]; exact fun z => absurd ((nI_ltI (by omega) (by omega)).mp z) (by omega)) (nm_e (h _ (t2.tr (XTf.up (by omega))) ⟨?_, ?_, ?_⟩))
      · rw [up_s]; unfold tK kAt; rw [if_neg hlt]; rfl
      · rw [up_n (by omega)]; exact f5
      · rw [up_n (by omega), f6]; unfold tN nAt; rw [if_neg hlt]
  refine cn_X3_advance ?_
  suffices hs : ∀ k j d1, n - j = k → j ≤ n → sc (isBl f) n j = tP f n i → XTf d d1 → d1 36 6 = nI j → Ev SX MX3_advance 0 [.ref 36] [] d1 (rV q) from hs _ i d rfl hi rfl XTf.rf h6
  intro k
  induction k with
  | zero =>
    intro j d1 hk hj hsc t1 e6
    refine bk_X3_advance_0 (br_t ?_ (k38 d1 t1 ?_))
    · rw [(hB.tf t1).2.2.1, e6]; exact nI_le (by omega) (by omega)
    · rw [e6, ← hsc, sc_stop (fun z => by omega)]
  | succ k ih =>
    intro j d1 hk hj hsc t1 e6
    have hjn : j < n := by omega
    have hB1 := hB.tf t1
    have hf := b2 _ hjn
    refine bk_X3_advance_0 (br_f ?_ ?_)
    · rw [hB1.2.2.1, e6]; exact fun c => absurd ((nI_leI (by omega) (by omega)).mp c) (by omega)
    rw [e6]
    refine ⟨vp_in_nI (by omega) (by omega), ?_⟩
    rw [nI_clamp (by omega), hB1.2.2.2.1 j hjn]
    by_cases c : f j = 32
    · refine rr_t (by rw [c]; rfl) (nm_e ?_)
      rw [nI_1]
      exact ih (j + 1) _ (by omega) (by omega) (by rw [← hsc, sc_go hjn (decide_eq_true c)]) (t1.tr (XTf.up (by omega))) up_s
    · refine rr_f (lit_ne (b := 32) (by omega) (by omega) c) (k38 d1 t1 ?_)
      rw [e6, ← hsc, sc_stop (fun z => c (of_decide_eq_true z.2))]
end
section
/-! ===== the class takes tokens ===== -/
def FO (n : Nat) (o : Option (Nat × Nat)) (d : DD) : Prop := match o with
  | none => d 36 2 = nI 0
  | some e => okE n e ∧ d 36 2 = nI e.1 ∧ d 36 3 = nI e.2
def oS : Sg → Option (Nat × Nat)
  | .inl e => some e
  | .inr _ => none
def fO (o : Option (Nat × Nat)) (e : Nat × Nat) : Option (Nat × Nat) := match o with
  | none => some e
  | some x => some x
/-- the current token is the one behind the place of σ -/
def XA (f : Nat → Nat) (n : Nat) (x0 : DD) (σ : Sg) (d : DD) : Prop := XB f n x0 d ∧ FO n (oS σ) d ∧ ∃ i, i ≤ n ∧ XTk f n i d ∧ ∀ j, σ = .inr j → j = i
/-- the next place to be read is that of σ -/
def XS (f : Nat → Nat) (n : Nat) (x0 : DD) (σ : Sg) (d : DD) : Prop := XB f n x0 d ∧ FO n (oS σ) d ∧ ∃ i, i ≤ n ∧ d 36 6 = nI i ∧ ∀ j, σ = .inr j → j = i
theorem FO.same {n : Nat} {o : Option (Nat × Nat)} {d d' : DD} (h : FO n o d) (e2 : d' 36 2 = d 36 2) (e3 : d' 36 3 = d 36 3) : FO n o d' := by
  unfold FO at h ⊢
  cases o with
  | none => exact e2.trans h
  | some e => exact ⟨h.1, e2.trans h.2.1, e3.trans h.2.2⟩
theorem XTk.same {f : Nat → Nat} {n i : Nat} {d d' : DD} (h : XTk f n i d) (e : ∀ j, 4 ≤ j → d' 36 j = d 36 j) : XTk f n i d' := ⟨(e 4 (by omega)).trans h.1, (e 5 (by omega)).trans h.2.1, (e 6 (by omega)).trans h.2.2⟩
/-- a put into the told house -/
theorem XB.put {f : Nat → Nat} {n : Nat} {x0 d d' : DD} (h : XB f n x0 d) (hd : ∀ a, (a < 12 ∨ 22 < a) → d' a = d a) : XB f n x0 d' := by
  obtain ⟨g1, g2, g3, g4, g5⟩ := h
  exact ⟨g1, g2, by rw [hd 36 (by omega)]; exact g3, fun i hi => by rw [hd 37 (by omega)]; exact g4 i hi, fun a ha hb => by rw [hd a hb]; exact g5 a ha hb⟩
theorem XS.put {f : Nat → Nat} {n : Nat} {x0 d d' : DD} {σ : Sg} (h : XS f n x0 σ d) (hd : ∀ a, (a < 12 ∨ 22 < a) → d' a = d a) : XS f n x0 σ d' := by
  obtain ⟨h1, h2, i, h3, h4, h5⟩ := h
  exact ⟨h1.put hd, h2.same (by rw [hd 36 (by omega)]) (by rw [hd 36 (by omega)]), i, h3, by rw [hd 36 (by omega)]; exact h4, h5⟩
theorem XA.put {f : Nat → Nat} {n : Nat} {x0 d d' : DD} {σ : Sg} (h : XA f n x0 σ d) (hd : ∀ a, (a < 12 ∨ 22 < a) → d' a = d a) : XA f n x0 σ d' := by
  obtain ⟨h1, h2, i, h3, h4, h5⟩ := h
  exact ⟨h1.put hd, h2.same (by rw [hd 36 (by omega)]) (by rw [hd 36 (by omega)]), i, h3, h4.same (fun j _ => by rw [hd 36 (by omega)]), h5⟩
theorem X_adv {q : DD → Prop} {x0 : DD} {f : Nat → Nat} {n : Nat} {σ : Sg} {d : DD} (hS : XS f n x0 σ d) (h : ∀ d', XA f n x0 σ d' → (∀ a, a ≠ 36 → d' a = d a) → q d') : Cn SX MX3_advance [.ref 36] d (rV q) := by
  obtain ⟨h1, h2, i, h3, h4, h5⟩ := hS
  exact X_advance h3 h1 h4 fun d' t k => h d' ⟨h1.tf t, h2.same (t.2 2 (by omega)) (t.2 3 (by omega)), i, h3, k, h5⟩ t.1
theorem X_fail {q : DD → Prop} {d : DD} {n c p : Nat} {o : Option (Nat × Nat)} (hF : FO n o d) (hn : n ≤ 160) (h1 : 1 ≤ c) (h6 : c ≤ 6) (hp : p ≤ n) (h : ∀ d', FO n (fO o (c, p)) d' → (∀ a, a ≠ 36 → d' a = d a) → (∀ j, j ≠ 2 → j ≠ 3 → d' 36 j = d 36 j) → q d') : Cn SX MX3_fail [.ref 36, .int (nI c), .int (nI p)] d (rV q) := by
  cases o with
  | none =>
    have e2 : d 36 2 = nI 0 := hF
    refine cn_X3_fail (rr_t (by rw [e2]; rfl) (nm_e (nm_e (h _ ⟨⟨h1, h6, hp⟩, ?_, up_s⟩ (fun a ha => by rw [up_ne a ha, up_ne a ha]) (fun j a b => by rw [up_n (by omega), up_n (by omega)])))))
    rw [up_n (by omega), up_s]
  | some e =>
    obtain ⟨k1, k2, k3⟩ := id hF
    refine cn_X3_fail (rr_f (by rw [k2]; exact lit_ne (b := 0) (by have := k1.2.1; omega) (by omega) (by have := k1.1; omega)) (h d hF (fun _ _ => rfl) (fun _ _ _ => rfl)))
/-- a FAULT at the current token -/
theorem X_failT {q : DD → Prop} {x0 : DD} {f : Nat → Nat} {n c : Nat} {σ : Sg} {d : DD} (hA : XA f n x0 σ d) (h1 : 1 ≤ c) (h6 : c ≤ 6) (h : ∀ d', XS f n x0 (sB (fun i => .inl (c, tP f n i)) σ) d' → (∀ a, a ≠ 36 → d' a = d a) → (∀ j, j ≠ 2 → j ≠ 3 → d' 36 j = d 36 j) → q d') : Cn SX MX3_fail [.ref 36, .int (nI c), .int (d 36 5)] d (rV q) := by
  obtain ⟨hB, hF, i, hi, hk, hj⟩ := hA
  rw [hk.2.1]
  have hn := hB.1
  refine X_fail hF hn h1 h6 (tP_le hi) fun d' g1 g2 g3 => h d' ⟨?_, ?_, tN f n i, tN_le hi, ?_, ?_⟩ g2 g3
  · exact ⟨hB.1, hB.2.1, by rw [g3 1 (by omega) (by omega)]; exact hB.2.2.1, fun k hk => by rw [g2 37 (by omega)]; exact hB.2.2.2.1 k hk, fun a ha hb => by rw [g2 a ha]; exact hB.2.2.2.2 a ha hb⟩
  · cases σ with
    | inl e => exact g1
    | inr j => rw [hj j rfl]; exact g1
  · rw [g3 6 (by omega) (by omega)]; exact hk.2.2
  · intro j e
    cases σ with
    | inl e2 => cases e
    | inr j => cases e
theorem X_number {q : Int32 → DD → Prop} {x0 : DD} {f : Nat → Nat} {n lo hi : Nat} {σ : Sg} {d : DD} (hA : XA f n x0 σ d) (hlh : lo ≤ hi) (hh : hi ≤ 99) (h : ∀ v d', lo ≤ v → v ≤ hi → XS f n x0 (sB (sNum f n lo hi) σ) d' → (∀ i i', σ = .inr i → sNum f n lo hi i = .inr i' → v = tV f n i) → (∀ a, a ≠ 36 → d' a = d a) → (∀ j, j ≠ 2 → j ≠ 3 → d' 36 j = d 36 j) → q (nI v) d') : Cn SX MX3_number [.ref 36, .int (nI lo), .int (nI hi)] d (rI q) := by
  obtain ⟨hB, hF, i, hi9, hk, hj⟩ := id hA
  have hn := hB.1
  have hK := tK_le (f := f) (n := n) (i := i)
  -- a FAULT of the number c
  have bad : ∀ c, 1 ≤ c → c ≤ 6 → sNum f n lo hi i = .inl (c, tP f n i) → Cn SX MX3_fail [.ref 36, .int (nI c), .int (d 36 5)] d (rV fun d3 => q (nI lo) d3) := by
    intro c h1 h6 es
    refine X_failT hA h1 h6 fun d' g1 g2 g3 => h lo d' (Nat.le_refl _) hlh ?_ ?_ g2 g3
    · cases σ with
      | inl e => exact g1
      | inr j =>
        have := hj j rfl
        subst this
        show XS f n x0 (sNum f n lo hi j) d'
        rw [es]; exact g1
    · intro j j' e1 e2
      have := hj j e1
      subst this
      rw [es] at e2; cases e2
  refine cn_X3_number ?_
  rw [hk.1]
  by_cases c4 : tK f n i = 4
  · refine rr_t (by rw [c4]; rfl) (bad 1 (by omega) (by omega) ?_)
    unfold sNum; rw [if_pos c4]
  · refine rr_f (lit_ne (b := 4) (by omega) (by omega) c4) ?_
    by_cases c2 : tK f n i = 2
    · refine br_t (by rw [c2]; rfl) ?_
      obtain ⟨t1, t2, t3, t4, t5⟩ := tK2 c2
      have hle := tN_le (f := f) hi9
      have hge := tN_ge (f := f) (n := n) (i := i)
      have hlt := tV_lt c2
      rw [hk.2.1, li_0]
      -- the figures
      suffices hs : ∀ k r, k + r = tN f n i - tP f n i → Ev SX MX3_number 46 [.ref 36, .int (nI lo), .int (nI hi), .int (nI (vlN f (tP f n i) k)), .int (nI (tP f n i + k))] [] d (rI q) from hs 0 _ (Nat.zero_add _)
      intro k r
      induction r generalizing k with
      | zero =>
        intro hk2
        refine bk_X3_number_46 (br_t ?_ ?_)
        · rw [hk.2.2]; exact nI_le (by omega) (by omega)
        have ev : vlN f (tP f n i) k = tV f n i := by unfold tV; rw [show k = tN f n i - tP f n i by omega]
        rw [ev]
        refine X_wlh lo hi (by omega) (by omega) (by omega) (fun z => y1 ?_) (fun z => y0 (bad 3 (by omega) (by omega) ?_))
        · have es : sNum f n lo hi i = .inr (tN f n i) := by unfold sNum; rw [if_neg c4, if_pos c2, if_pos z]
          refine h _ d z.1 z.2 ⟨hB, ?_, tN f n i, hle, hk.2.2, ?_⟩ ?_ (fun _ _ => rfl) (fun _ _ _ => rfl)
          · cases σ with
            | inl e => exact hF
            | inr j =>
              have := hj j rfl
              subst this
              show FO n (oS (sNum f n lo hi j)) d
              rw [es]; exact hF
          · intro j e
            cases σ with
            | inl e2 => cases e
            | inr j2 =>
              have := hj j2 rfl
              subst this
              have e' : sNum f n lo hi j2 = .inr j := e
              rw [es] at e'; cases e'; rfl
          · intro j j' e1 e2
            rw [hj j e1]
        · unfold sNum; rw [if_neg c4, if_pos c2, if_neg z]
      | succ r ih =>
        intro hk2
        have h5 := t5 (tP f n i + k) (by omega) (by omega)
        have hv := vlN_lt (f := f) (p := tP f n i) k (fun j a b => t5 j a (by omega))
        have hp10 : 10 ^ k ≤ 10 ^ 2 := Nat.pow_le_pow_right (by decide) (by omega)
        refine bk_X3_number_46 (br_f ?_ ⟨vp_in_nI (by omega) (by omega), nm_e ?_⟩)
        · rw [hk.2.2]; exact fun z => absurd ((nI_leI (by omega) (by omega)).mp z) (by omega)
        rw [nI_clamp (by omega), hB.2.2.2.1 _ (by omega), nI_1, li_10, pk_mul, nI_add, show (48 : Int32) = nI 48 from rfl, pk_sub (by omega)]
        have := ih (k + 1) (by omega)
        rw [show vlN f (tP f n i) (k + 1) = vlN f (tP f n i) k * 10 + f (tP f n i + k) - 48 from by show vlN f (tP f n i) k * 10 + (f (tP f n i + k) - 48) = _; omega] at this
        exact this
    · refine br_f (lit_ne (b := 2) (by omega) (by omega) c2) (bad 2 (by omega) (by omega) ?_)
      unfold sNum; rw [if_neg c4, if_neg c2]
theorem X_next {q : Int32 → DD → Prop} {x0 : DD} {f : Nat → Nat} {n lo hi : Nat} {σ : Sg} {d : DD} (hS : XS f n x0 σ d) (hlh : lo ≤ hi) (hh : hi ≤ 99) (h : ∀ v d', lo ≤ v → v ≤ hi → XS f n x0 (sB (sNum f n lo hi) σ) d' → (∀ i i', σ = .inr i → sNum f n lo hi i = .inr i' → v = tV f n i) → (∀ a, a ≠ 36 → d' a = d a) → q (nI v) d') : Cn SX MX3_nextNumber [.ref 36, .int (nI lo), .int (nI hi)] d (rI q) :=
  cn_X3_nextNumber (X_adv hS fun d1 hA g1 => X_number hA hlh hh fun v d2 a1 a2 a3 a4 a5 _ => h v d2 a1 a2 a3 a4 (fun a ha => (a5 a ha).trans (g1 a ha)))
theorem X_sign {q : DD → Prop} {x0 : DD} {f : Nat → Nat} {n : Nat} {σ : Sg} {d : DD} (hA : XA f n x0 σ d) (h : ∀ d', XS f n x0 (sB (sSgn f n) σ) d' → (∀ a, a ≠ 36 → d' a = d a) → q d') : Cn SX MX3_sign [.ref 36] d (rV q) := by
  obtain ⟨hB, hF, i, hi9, hk, hj⟩ := id hA
  have hK := tK_le (f := f) (n := n) (i := i)
  have bad : ∀ c, 1 ≤ c → c ≤ 6 → sSgn f n i = .inl (c, tP f n i) → Cn SX MX3_fail [.ref 36, .int (nI c), .int (d 36 5)] d (rV fun d3 => q d3) := by
    intro c h1 h6 es
    refine X_failT hA h1 h6 fun d' g1 g2 g3 => h d' ?_ g2
    cases σ with
    | inl e => exact g1
    | inr j =>
      have := hj j rfl
      subst this
      show XS f n x0 (sSgn f n j) d'
      rw [es]; exact g1
  refine cn_X3_sign ?_
  rw [hk.1]
  by_cases c3 : tK f n i = 3
  · refine br_t (by rw [c3]; rfl) (h d ⟨hB, ?_, tN f n i, tN_le hi9, hk.2.2, ?_⟩ (fun _ _ => rfl))
    · cases σ with
      | inl e => exact hF
      | inr j =>
        have := hj j rfl
        subst this
        show FO n (oS (sSgn f n j)) d
        unfold sSgn; rw [if_neg (by omega), if_pos c3]; exact hF
    · intro j e
      cases σ with
      | inl e2 => cases e
      | inr j2 =>
        have := hj j2 rfl
        subst this
        have e' : sSgn f n j2 = .inr j := e
        unfold sSgn at e'; rw [if_neg (by omega), if_pos c3] at e'; cases e'; rfl
  · refine br_f (lit_ne (b := 3) (by omega) (by omega) c3) ?_
    by_cases c4 : tK f n i = 4
    · refine rr_t (by rw [c4]; rfl) (bad 1 (by omega) (by omega) ?_)
      unfold sSgn; rw [if_pos c4]
    · refine rr_f (lit_ne (b := 4) (by omega) (by omega) c4) (bad 2 (by omega) (by omega) ?_)
      unfold sSgn; rw [if_neg c4, if_neg c3]
end
section
/-! ===== the class reads lines ===== -/
def aB (H : HH) (v : Nat) : HH := fun a j => if a = 9 ∧ j = nB H then v else if a = 10 ∧ j = 2 then nB H + 1 else H a j
def aP (H : HH) (s b p w : Nat) : HH := fun a j => if a = 5 ∧ j = nP H then s else if a = 6 ∧ j = nP H then b else if a = 7 ∧ j = nP H then p else if a = 8 ∧ j = nP H then w else if a = 10 ∧ j = 1 then nP H + 1 else H a j
def aT (H : HH) (k tm sr c : Nat) (g : Nat → Nat) : HH := fun a j => if a = 0 ∧ j = nT H then k else if a = 1 ∧ j = nT H then c else if a = 2 ∧ j = nT H then tm else if a = 3 ∧ j = nT H then sr else if a = 4 ∧ 8 * nT H ≤ j ∧ j < 8 * nT H + 8 then g (j - 8 * nT H) else if a = 10 ∧ j = 0 then nT H + 1 else H a j
/-- of a tune: not more than 8 notes -/
def O8 (H : HH) : Prop := ∀ t, t < nT H → H 1 t ≤ 8
theorem XH_aB {H : HH} {v : Nat} {d d' : DD} (hX : XH 12 d H) (hf : ∀ a j, 12 ≤ a → a ≤ 22 → ¬ (a = 12 ∧ j = 2) → ¬ (a = 22 ∧ j = nB H) → d' a j = d a j) (h1 : d' 12 2 = nI (nB H + 1)) (h2 : d' 22 (nB H) = nI v) : XH 12 d' (aB H v) := by
  obtain ⟨a1, a2, a3, a4, a5, a6⟩ := hX
  have e0 : nT (aB H v) = nT H := by show aB H v 10 0 = _; unfold aB; rw [if_neg (by omega), if_neg (by omega)]
  have e1 : nP (aB H v) = nP H := by show aB H v 10 1 = _; unfold aB; rw [if_neg (by omega), if_neg (by omega)]
  have e2 : nB (aB H v) = nB H + 1 := by show aB H v 10 2 = _; unfold aB; rw [if_neg (by omega), if_pos ⟨rfl, rfl⟩]
  have ee : ∀ a j, a ≤ 8 → aB H v a j = H a j := fun a j h => by unfold aB; rw [if_neg (by omega), if_neg (by omega)]
  refine ⟨by rw [e0, hf 12 0 (by omega) (by omega) (by omega) (by omega)]; exact a1, by rw [e1, hf 12 1 (by omega) (by omega) (by omega) (by omega)]; exact a2, by rw [e2]; exact h1, fun t ht => ?_, fun p hp => ?_, fun q hq => ?_⟩
  · rw [e0] at ht
    obtain ⟨b1, b2, b3, b4, b5⟩ := a4 t ht
    refine ⟨by rw [ee 0 _ (by omega), hf 13 _ (by omega) (by omega) (by omega) (by omega)]; exact b1, by rw [ee 1 _ (by omega), hf 14 _ (by omega) (by omega) (by omega) (by omega)]; exact b2, by rw [ee 2 _ (by omega), hf 15 _ (by omega) (by omega) (by omega) (by omega)]; exact b3, by rw [ee 3 _ (by omega), hf 16 _ (by omega) (by omega) (by omega) (by omega)]; exact b4, fun i hi => ?_⟩
    rw [ee 1 _ (by omega)] at hi
    rw [ee 4 _ (by omega), hf 17 _ (by omega) (by omega) (by omega) (by omega)]; exact b5 i hi
  · rw [e1] at hp
    obtain ⟨b1, b2, b3, b4⟩ := a5 p hp
    exact ⟨by rw [ee 5 _ (by omega), hf 18 _ (by omega) (by omega) (by omega) (by omega)]; exact b1, by rw [ee 6 _ (by omega), hf 19 _ (by omega) (by omega) (by omega) (by omega)]; exact b2, by rw [ee 7 _ (by omega), hf 20 _ (by omega) (by omega) (by omega) (by omega)]; exact b3, by rw [ee 8 _ (by omega), hf 21 _ (by omega) (by omega) (by omega) (by omega)]; exact b4⟩
  · rw [e2] at hq
    by_cases c : q = nB H
    · subst c
      rw [show aB H v 9 (nB H) = v from if_pos ⟨rfl, rfl⟩]; exact h2
    · rw [show aB H v 9 q = H 9 q from by unfold aB; rw [if_neg (by omega), if_neg (by omega)], hf 22 q (by omega) (by omega) (by omega) (by omega)]
      exact a6 q (by omega)
theorem XH_aP {H : HH} {s b p w : Nat} {d d' : DD} (hX : XH 12 d H) (hf : ∀ a j, 12 ≤ a → a ≤ 22 → ¬ (a = 12 ∧ j = 1) → ¬ (18 ≤ a ∧ a ≤ 21 ∧ j = nP H) → d' a j = d a j) (h1 : d' 12 1 = nI (nP H + 1)) (h2 : d' 18 (nP H) = nI s) (h3 : d' 19 (nP H) = nI b) (h4 : d' 20 (nP H) = nI p) (h5 : d' 21 (nP H) = nI w) : XH 12 d' (aP H s b p w) := by
  obtain ⟨a1, a2, a3, a4, a5, a6⟩ := hX
  have e0 : nT (aP H s b p w) = nT H := by show aP H s b p w 10 0 = _; unfold aP; rw [if_neg (by omega), if_neg (by omega), if_neg (by omega), if_neg (by omega), if_neg (by omega)]
  have e1 : nP (aP H s b p w) = nP H + 1 := by show aP H s b p w 10 1 = _; unfold aP; rw [if_neg (by omega), if_neg (by omega), if_neg (by omega), if_neg (by omega), if_pos ⟨rfl, rfl⟩]
  have e2 : nB (aP H s b p w) = nB H := by show aP H s b p w 10 2 = _; unfold aP; rw [if_neg (by omega), if_neg (by omega), if_neg (by omega), if_neg (by omega), if_neg (by omega)]
  have ee : ∀ a j, a ≤ 4 ∨ a = 9 → aP H s b p w a j = H a j := fun a j h => by unfold aP; rw [if_neg (by omega), if_neg (by omega), if_neg (by omega), if_neg (by omega), if_neg (by omega)]
  refine ⟨by rw [e0, hf 12 0 (by omega) (by omega) (by omega) (by omega)]; exact a1, by rw [e1]; exact h1, by rw [e2, hf 12 2 (by omega) (by omega) (by omega) (by omega)]; exact a3, fun t ht => ?_, fun q hq => ?_, fun q hq => ?_⟩
  · rw [e0] at ht
    obtain ⟨b1, b2, b3, b4, b5⟩ := a4 t ht
    refine ⟨by rw [ee 0 _ (by omega), hf 13 _ (by omega) (by omega) (by omega) (by omega)]; exact b1, by rw [ee 1 _ (by omega), hf 14 _ (by omega) (by omega) (by omega) (by omega)]; exact b2, by rw [ee 2 _ (by omega), hf 15 _ (by omega) (by omega) (by omega) (by omega)]; exact b3, by rw [ee 3 _ (by omega), hf 16 _ (by omega) (by omega) (by omega) (by omega)]; exact b4, fun i hi => ?_⟩
    rw [ee 1 _ (by omega)] at hi
    rw [ee 4 _ (by omega), hf 17 _ (by omega) (by omega) (by omega) (by omega)]; exact b5 i hi
  · rw [e1] at hq
    by_cases c : q = nP H
    · subst c
      refine ⟨?_, ?_, ?_, ?_⟩
      · rw [show aP H s b p w 5 (nP H) = s from if_pos ⟨rfl, rfl⟩]; exact h2
      · rw [show aP H s b p w 6 (nP H) = b from by unfold aP; rw [if_neg (by omega), if_pos ⟨rfl, rfl⟩]]; exact h3
      · rw [show aP H s b p w 7 (nP H) = p from by unfold aP; rw [if_neg (by omega), if_neg (by omega), if_pos ⟨rfl, rfl⟩]]; exact h4
      · rw [show aP H s b p w 8 (nP H) = w from by unfold aP; rw [if_neg (by omega), if_neg (by omega), if_neg (by omega), if_pos ⟨rfl, rfl⟩]]; exact h5
    · have ej : ∀ a, a ≤ 9 → aP H s b p w a q = H a q := fun a h => by unfold aP; rw [if_neg (by omega), if_neg (by omega), if_neg (by omega), if_neg (by omega), if_neg (by omega)]
      obtain ⟨b1, b2, b3, b4⟩ := a5 q (by omega)
      exact ⟨by rw [ej 5 (by omega), hf 18 _ (by omega) (by omega) (by omega) (by omega)]; exact b1, by rw [ej 6 (by omega), hf 19 _ (by omega) (by omega) (by omega) (by omega)]; exact b2, by rw [ej 7 (by omega), hf 20 _ (by omega) (by omega) (by omega) (by omega)]; exact b3, by rw [ej 8 (by omega), hf 21 _ (by omega) (by omega) (by omega) (by omega)]; exact b4⟩
  · rw [e2] at hq
    rw [ee 9 _ (by omega), hf 22 _ (by omega) (by omega) (by omega) (by omega)]; exact a6 q hq
theorem XH_aT {H : HH} {k tm sr c : Nat} {g : Nat → Nat} {d d' : DD} (h8 : O8 H) (hc : c ≤ 8) (hX : XH 12 d H) (hf : ∀ a j, 12 ≤ a → a ≤ 22 → ¬ (a = 12 ∧ j = 0) → ¬ (13 ≤ a ∧ a ≤ 16 ∧ j = nT H) → ¬ (a = 17 ∧ 8 * nT H ≤ j ∧ j < 8 * nT H + 8) → d' a j = d a j) (h1 : d' 12 0 = nI (nT H + 1)) (h2 : d' 13 (nT H) = nI k) (h3 : d' 14 (nT H) = nI c) (h4 : d' 15 (nT H) = nI tm) (h5 : d' 16 (nT H) = nI sr) (h6 : ∀ j, j < c → d' 17 (8 * nT H + j) = nI (g j)) : XH 12 d' (aT H k tm sr c g) := by
  obtain ⟨a1, a2, a3, a4, a5, a6⟩ := hX
  have e0 : nT (aT H k tm sr c g) = nT H + 1 := by show aT H k tm sr c g 10 0 = _; unfold aT; rw [if_neg (by omega), if_neg (by omega), if_neg (by omega), if_neg (by omega), if_neg (by omega), if_pos ⟨rfl, rfl⟩]
  have e1 : nP (aT H k tm sr c g) = nP H := by show aT H k tm sr c g 10 1 = _; unfold aT; rw [if_neg (by omega), if_neg (by omega), if_neg (by omega), if_neg (by omega), if_neg (by omega), if_neg (by omega)]
  have e2 : nB (aT H k tm sr c g) = nB H := by show aT H k tm sr c g 10 2 = _; unfold aT; rw [if_neg (by omega), if_neg (by omega), if_neg (by omega), if_neg (by omega), if_neg (by omega), if_neg (by omega)]
  have ee : ∀ a j, 5 ≤ a ∧ a ≤ 9 → aT H k tm sr c g a j = H a j := fun a j h => by unfold aT; rw [if_neg (by omega), if_neg (by omega), if_neg (by omega), if_neg (by omega), if_neg (by omega), if_neg (by omega)]
  refine ⟨by rw [e0]; exact h1, by rw [e1, hf 12 1 (by omega) (by omega) (by omega) (by omega) (by omega)]; exact a2, by rw [e2, hf 12 2 (by omega) (by omega) (by omega) (by omega) (by omega)]; exact a3, fun t ht => ?_, fun p hp => ?_, fun q hq => ?_⟩
  · rw [e0] at ht
    by_cases z : t = nT H
    · subst z
      have c1 : aT H k tm sr c g 1 (nT H) = c := by unfold aT; rw [if_neg (by omega), if_pos ⟨rfl, rfl⟩]
      refine ⟨?_, ?_, ?_, ?_, fun i hi => ?_⟩
      · rw [show aT H k tm sr c g 0 (nT H) = k from if_pos ⟨rfl, rfl⟩]; exact h2
      · rw [c1]; exact h3
      · rw [show aT H k tm sr c g 2 (nT H) = tm from by unfold aT; rw [if_neg (by omega), if_neg (by omega), if_pos ⟨rfl, rfl⟩]]; exact h4
      · rw [show aT H k tm sr c g 3 (nT H) = sr from by unfold aT; rw [if_neg (by omega), if_neg (by omega), if_neg (by omega), if_pos ⟨rfl, rfl⟩]]; exact h5
      · rw [c1] at hi
        rw [show aT H k tm sr c g 4 (8 * nT H + i) = g i from by unfold aT; rw [if_neg (by omega), if_neg (by omega), if_neg (by omega), if_neg (by omega), if_pos ⟨rfl, (by omega), (by omega)⟩, Nat.add_sub_cancel_left]]
        exact h6 i hi
    · have ht2 : t < nT H := by omega
      have ej : ∀ a, a ≤ 3 → aT H k tm sr c g a t = H a t := fun a h => by unfold aT; rw [if_neg (by omega), if_neg (by omega), if_neg (by omega), if_neg (by omega), if_neg (by omega), if_neg (by omega)]
      obtain ⟨b1, b2, b3, b4, b5⟩ := a4 t ht2
      have h88 := h8 t ht2
      refine ⟨by rw [ej 0 (by omega), hf 13 _ (by omega) (by omega) (by omega) (by omega) (by omega)]; exact b1, by rw [ej 1 (by omega), hf 14 _ (by omega) (by omega) (by omega) (by omega) (by omega)]; exact b2, by rw [ej 2 (by omega), hf 15 _ (by omega) (by omega) (by omega) (by omega) (by omega)]; exact b3, by rw [ej 3 (by omega), hf 16 _ (by omega) (by omega) (by omega) (by omega) (by omega)]; exact b4, fun i hi => ?_⟩
      rw [ej 1 (by omega)] at hi
      rw [show aT H k tm sr c g 4 (8 * t + i) = H 4 (8 * t + i) from by unfold aT; rw [if_neg (by omega), if_neg (by omega), if_neg (by omega), if_neg (by omega), if_neg (by omega), if_neg (by omega)], hf 17 _ (by omega) (by omega) (by omega) (by omega) (by omega)]
      exact b5 i hi
  · rw [e1] at hp
    obtain ⟨b1, b2, b3, b4⟩ := a5 p hp
    exact ⟨by rw [ee 5 _ (by omega), hf 18 _ (by omega) (by omega) (by omega) (by omega) (by omega)]; exact b1, by rw [ee 6 _ (by omega), hf 19 _ (by omega) (by omega) (by omega) (by omega) (by omega)]; exact b2, by rw [ee 7 _ (by omega), hf 20 _ (by omega) (by omega) (by omega) (by omega) (by omega)]; exact b3, by rw [ee 8 _ (by omega), hf 21 _ (by omega) (by omega) (by omega) (by omega) (by omega)]; exact b4⟩
  · rw [e2] at hq
    rw [ee 9 _ (by omega), hf 22 _ (by omega) (by omega) (by omega) (by omega) (by omega)]; exact a6 q hq
theorem isH12 : isH 12 := Or.inr (Or.inl rfl)
/-- bound N ; -/
def sBd (f : Nat → Nat) (n i : Nat) : Sg := sB (sSgn f n) (sNum f n 0 3 i)
theorem X_tellBound {q : DD → Prop} {x0 : DD} {f : Nat → Nat} {n i : Nat} {d : DD} {H : HH} (hS : XS f n x0 (.inr i) d) (hX : XH 12 d H) (hb : nB H < 6) (h : ∀ d', XS f n x0 (sBd f n i) d' → (∀ i', sNum f n 0 3 i = .inr i' → XH 12 d' (aB H (tV f n i))) → q d') : Cn SX MX3_tellBound [.ref 36, .ref 12] d (rV q) := by
  have e3 := hX.nb
  refine cn_X3_tellBound isH12 (br_t (by rw [e3]; exact (nI_ltI (b := 6) (by omega) (by omega)).mpr hb) (nm_e ?_))
  rw [e3, nI_1]
  refine X_next (lo := 0) (hi := 3) (hS.put (fun a ha => up_ne a (by omega))) (by omega) (by omega) (fun v d1 v0 v3 s1 ev f1 => ⟨vp_in_nI (by omega) (by omega), nm_e ?_⟩)
  rw [nI_clamp (by omega)]
  refine X_adv (s1.put (fun a ha => up_ne a (by omega))) (fun d2 s2 f2 => X_sign s2 fun d3 s3 f3 => h d3 s3 fun i' ei => ?_)
  have := ev i i' rfl ei
  subst this
  refine XH_aB hX (fun a j h1 h2 h3 h4 => ?_) ?_ ?_
  · rw [f3 a (by omega), f2 a (by omega), up_n (by omega), f1 a (by omega), up_n (by omega)]
  · rw [f3 12 (by omega), f2 12 (by omega), up_n (by omega), f1 12 (by omega), up_s]
  · rw [f3 22 (by omega), f2 22 (by omega), up_s]
/-- player N N N N ; -/
def sPl (f : Nat → Nat) (n i : Nat) : Sg := sB (sSgn f n) (sB (sNum f n 0 3) (sB (sNum f n 0 9) (sB (sNum f n 1 99) (sNum f n 0 9 i))))
theorem X_tellPlayer {q : DD → Prop} {x0 : DD} {f : Nat → Nat} {n i : Nat} {d : DD} {H : HH} (hS : XS f n x0 (.inr i) d) (hX : XH 12 d H) (hb : nP H < 4) (h : ∀ d', XS f n x0 (sPl f n i) d' → (∀ i1 i2 i3 i4, sNum f n 0 9 i = .inr i1 → sNum f n 1 99 i1 = .inr i2 → sNum f n 0 9 i2 = .inr i3 → sNum f n 0 3 i3 = .inr i4 → XH 12 d' (aP H (tV f n i) (tV f n i1) (tV f n i2) (tV f n i3))) → q d') : Cn SX MX3_tellPlayer [.ref 36, .ref 12] d (rV q) := by
  have e3 := hX.np
  have vp : vp_in (nI (nP H)) 4 := vp_in_nI (by omega) (by omega)
  refine cn_X3_tellPlayer isH12 (br_t (by rw [e3]; exact (nI_ltI (b := 4) (by omega) (by omega)).mpr hb) (nm_e ?_))
  rw [e3, nI_1, nI_clamp (by omega)]
  refine X_next (lo := 0) (hi := 9) (hS.put (fun a ha => up_ne a (by omega))) (by omega) (by omega) (fun v1 d1 _ _ s1 ev1 f1 => ⟨vp, nm_e ?_⟩)
  refine X_next (lo := 1) (hi := 99) (s1.put (fun a ha => up_ne a (by omega))) (by omega) (by omega) (fun v2 d2 _ _ s2 ev2 f2 => ⟨vp, nm_e ?_⟩)
  refine X_next (lo := 0) (hi := 9) (s2.put (fun a ha => up_ne a (by omega))) (by omega) (by omega) (fun v3 d3 _ _ s3 ev3 f3 => ⟨vp, nm_e ?_⟩)
  refine X_next (lo := 0) (hi := 3) (s3.put (fun a ha => up_ne a (by omega))) (by omega) (by omega) (fun v4 d4 _ _ s4 ev4 f4 => ⟨vp, nm_e ?_⟩)
  refine X_adv (s4.put (fun a ha => up_ne a (by omega))) (fun d5 s5 f5 => X_sign s5 fun d6 s6 f6 => h d6 s6 fun i1 i2 i3 i4 g1 g2 g3 g4 => ?_)
  have w1 := ev1 i i1 rfl g1
  have w2 := ev2 i1 i2 g1 g2
  have w3 := ev3 i2 i3 (by show sB (sNum f n 1 99) (sNum f n 0 9 i) = _; rw [g1]; exact g2) g3
  have w4 := ev4 i3 i4 (by show sB (sNum f n 0 9) (sB (sNum f n 1 99) (sNum f n 0 9 i)) = _; rw [g1]; show sB (sNum f n 0 9) (sNum f n 1 99 i1) = _; rw [g2]; exact g3) g4
  subst w1 w2 w3 w4
  refine XH_aP hX (fun a j h1 h2 h3 h4 => ?_) ?_ ?_ ?_ ?_ ?_
  · rw [f6 a (by omega), f5 a (by omega), up_n (by omega), f4 a (by omega), up_n (by omega), f3 a (by omega), up_n (by omega), f2 a (by omega), up_n (by omega), f1 a (by omega), up_n (by omega)]
  · rw [f6 12 (by omega), f5 12 (by omega), up_n (by omega), f4 12 (by omega), up_n (by omega), f3 12 (by omega), up_n (by omega), f2 12 (by omega), up_n (by omega), f1 12 (by omega), up_s]
  · rw [f6 18 (by omega), f5 18 (by omega), up_n (by omega), f4 18 (by omega), up_n (by omega), f3 18 (by omega), up_n (by omega), f2 18 (by omega), up_s]
  · rw [f6 19 (by omega), f5 19 (by omega), up_n (by omega), f4 19 (by omega), up_n (by omega), f3 19 (by omega), up_s]
  · rw [f6 20 (by omega), f5 20 (by omega), up_n (by omega), f4 20 (by omega), up_s]
  · rw [f6 21 (by omega), f5 21 (by omega), up_s]
/-- the notes behind the first: r more may come; w: which FAULT a 9th is -/
def sNt (w : Nat → Nat) (f : Nat → Nat) (n : Nat) : Nat → Nat → Nat → (Nat → Nat) → Sum (Nat × Nat) (Nat × (Nat → Nat) × Nat)
  | 0, c, i, g => .inr (c, g, i)
  | r + 1, c, i, g => if tK f n i = 2 then (if c = 8 then .inl (w (tV f n i), tP f n i) else if tV f n i ≤ 9 then sNt w f n r (c + 1) (tN f n i) (fun j => if j = c then tV f n i else g j) else .inl (3, tP f n i)) else .inr (c, g, i)
def sNtS (f : Nat → Nat) (n : Nat) (s : Sum (Nat × Nat) (Nat × (Nat → Nat) × Nat)) : Sg := match s with
  | .inl e => .inl e
  | .inr z => sSgn f n z.2.2
def wX (v : Nat) : Nat := if v ≤ 9 then 5 else 3
def wM (_ : Nat) : Nat := 5
/-- what the notes' loop leaves -/
def FN (t : Nat) (d d' : DD) : Prop := (∀ a, a ≠ 36 → a ≠ 14 → a ≠ 17 → d' a = d a) ∧ (∀ j, j ≠ t → d' 14 j = d 14 j) ∧ ∀ j, ¬ (8 * t ≤ j ∧ j < 8 * t + 8) → d' 17 j = d 17 j
theorem FN.tr {t : Nat} {a b c : DD} (h : FN t a b) (h2 : FN t b c) : FN t a c := ⟨fun x u v w => (h2.1 x u v w).trans (h.1 x u v w), fun j hj => (h2.2.1 j hj).trans (h.2.1 j hj), fun j hj => (h2.2.2 j hj).trans (h.2.2 j hj)⟩
theorem FN.of {t : Nat} {d d' : DD} (h : ∀ a, a ≠ 36 → d' a = d a) : FN t d d' := ⟨fun a u _ _ => h a u, fun j _ => by rw [h 14 (by omega)], fun j _ => by rw [h 17 (by omega)]⟩
theorem X_notes_bad {q : DD → Prop} {x0 : DD} {f : Nat → Nat} {n t : Nat} {l2 l4 : Int32} {d : DD} {e : Nat × Nat} (hA : XA f n x0 (.inl e) d) (h : ∀ d', XS f n x0 (.inl e) d' → FN t d d' → q d') : Ev SX MX3_tellTune 93 [.ref 36, .ref 12, .int l2, .int (nI t), .int l4, uJ] [] d (rV q) := by
  have sg : Cn SX MX3_sign [.ref 36] d (rV fun d2 => q d2) := X_sign hA fun d' s g => h d' s (FN.of g)
  obtain ⟨hB, hF, -⟩ := hA
  obtain ⟨k1, k2, k3⟩ := hF
  refine bk_X3_tellTune_93 isH12 ⟨fun _ => sg, fun _ => rr_f ?_ sg⟩
  rw [k2]; exact lit_ne (b := 0) (by have := k1.2.1; omega) (by omega) (by have := k1.1; omega)
theorem X_notes {q : DD → Prop} {x0 : DD} {f : Nat → Nat} {n t : Nat} {l2 : Int32} (ht : t < 4) : ∀ r c i g d, r + c = 9 → 1 ≤ c → c ≤ 8 → XA f n x0 (.inr i) d → d 14 t = nI c → (∀ j, j < c → d 17 (8 * t + j) = nI (g j)) → (∀ d', XS f n x0 (sNtS f n (sNt wX f n r c i g)) d' → FN t d d' → (∀ c' g' i', sNt wX f n r c i g = .inr (c', g', i') → c' ≤ 8 ∧ d' 14 t = nI c' ∧ ∀ j, j < c' → d' 17 (8 * t + j) = nI (g' j)) → q d') → Ev SX MX3_tellTune 93 [.ref 36, .ref 12, .int l2, .int (nI t), .int (nI c), uJ] [] d (rV q) := by
  intro r
  induction r with
  | zero => intro c i g d h9 h1 h8; omega
  | succ r ih =>
    intro c i g d h9 h1 h8 hA e14 e17 h
    obtain ⟨hB, hF, i', hi', hk, hj⟩ := id hA
    have hii := hj i rfl
    subst hii
    have hK := tK_le (f := f) (n := n) (i := i)
    refine bk_X3_tellTune_93 isH12 (br_f ?_ ?_)
    · exact fun z => absurd ((nI_ltI (a := 8) (by omega) (by omega)).mp z) (by omega)
    have e2 : d 36 2 = 0 := hF
    refine rr_t e2 ?_
    rw [hk.1]
    by_cases c2 : tK f n i = 2
    · refine rr_t (by rw [c2]; rfl) ?_
      refine X_number (lo := 0) (hi := 9) hA (by omega) (by omega) (fun v d1 v0 v9 s1 ev f1 f2 => ?_)
      by_cases c8 : c = 8
      · refine rr_t (by rw [c8]; rfl) ?_
        have e5 : d1 36 5 = nI (tP f n i) := by rw [f2 5 (by omega) (by omega)]; exact hk.2.1
        have hT1 : XTk f n i d1 := hk.same (fun j hj => f2 j (by omega) (by omega))
        have es : sNt wX f n (r + 1) c i g = .inl (wX (tV f n i), tP f n i) := by
          show (if tK f n i = 2 then _ else _) = _
          rw [if_pos c2, if_pos c8]
        rw [es] at h
        have hFO : FO n (fO (oS (sNum f n 0 9 i)) (5, tP f n i)) = FO n (some (wX (tV f n i), tP f n i)) := by
          unfold sNum wX
          rw [if_neg (by omega), if_pos c2]
          by_cases z : tV f n i ≤ 9
          · rw [if_pos ⟨Nat.zero_le _, z⟩, if_pos z]; rfl
          · rw [if_neg (fun y => z y.2), if_neg z]; rfl
        rw [e5]
        refine X_fail (c := 5) s1.2.1 hB.1 (by omega) (by omega) (tP_le hi') (fun d2 g1 g2 g3 => ?_)
        have g1' : FO n (some (wX (tV f n i), tP f n i)) d2 := by rw [← hFO]; exact g1
        rw [nI_1]
        refine X_notes_bad (t := t) ⟨⟨hB.1, hB.2.1, ?_, fun k hk => ?_, fun a ha hb => ?_⟩, g1', i, hi', hT1.same (fun j hj => g3 j (by omega) (by omega)), fun j e => by cases e⟩ (fun d' s f3 => h d' s (((FN.of f1).tr (FN.of g2)).tr f3) (fun c' g' i' e => by cases e))
        · rw [g3 1 (by omega) (by omega)]; exact s1.1.2.2.1
        · rw [g2 37 (by omega)]; exact s1.1.2.2.2.1 k hk
        · rw [g2 a ha]; exact s1.1.2.2.2.2 a ha hb
      · refine rr_f (lit_ne (b := 8) (by omega) (by omega) c8) ⟨?_, nm_e ⟨vp_in_nI (by omega) (by omega), nm_e ?_⟩⟩
        · rw [show nI t * 8 = nI (8 * t) from by rw [show (8 : Int32) = nI 8 from rfl, pk_mul, Nat.mul_comm], nI_add]; exact vp_in_nI (by omega) (by omega)
        rw [show nI t * 8 = nI (8 * t) from by rw [show (8 : Int32) = nI 8 from rfl, pk_mul, Nat.mul_comm], nI_add, nI_clamp (by omega), nI_clamp (by omega), nI_1]
        refine X_adv ((s1.put (d' := up d1 17 (8 * t + c) (nI v)) (fun a ha => up_ne a (by omega))).put (d' := up (up d1 17 (8 * t + c) (nI v)) 14 t (nI (c + 1))) (fun a ha => up_ne a (by omega))) (fun d2 s2 f3 => ?_)
        have fr : FN t d d2 := by
          refine ⟨fun a u v w => ?_, fun j hj => ?_, fun j hj => ?_⟩
          · rw [f3 a u, up_ne a v, up_ne a w, f1 a u]
          · rw [f3 14 (by omega), up_n (by omega), up_n (by omega), f1 14 (by omega)]
          · rw [f3 17 (by omega), up_n (by omega), up_n (by omega), f1 17 (by omega)]
        have es : sNt wX f n (r + 1) c i g = if tV f n i ≤ 9 then sNt wX f n r (c + 1) (tN f n i) (fun j => if j = c then tV f n i else g j) else .inl (3, tP f n i) := by
          show (if tK f n i = 2 then _ else _) = _
          rw [if_pos c2, if_neg c8]
        rw [es] at h
        have en : sNum f n 0 9 i = if tV f n i ≤ 9 then .inr (tN f n i) else .inl (3, tP f n i) := by
          unfold sNum
          rw [if_neg (by omega), if_pos c2]
          by_cases z : tV f n i ≤ 9
          · rw [if_pos ⟨Nat.zero_le _, z⟩, if_pos z]
          · rw [if_neg (fun y => z y.2), if_neg z]
        have s2' : XA f n x0 (sNum f n 0 9 i) d2 := s2
        rw [en] at s2'
        by_cases z : tV f n i ≤ 9
        · rw [if_pos z] at s2' h
          have w1 := ev i _ rfl (by rw [en, if_pos z])
          subst w1
          refine ih (c + 1) (tN f n i) (fun j => if j = c then tV f n i else g j) d2 (by omega) (by omega) (by omega) s2' ?_ (fun j hj => ?_) (fun d' s3 f4 ok => h d' s3 (fr.tr f4) ok)
          · rw [f3 14 (by omega), up_s]
          · rw [f3 17 (by omega), up_n (by omega)]
            by_cases y : j = c
            · rw [y, up_s]; show _ = nI (if c = c then _ else _); rw [if_pos rfl]
            · rw [up_n (by omega), f1 17 (by omega), e17 j (by omega)]; show _ = nI (if j = c then _ else _); rw [if_neg y]
        · rw [if_neg z] at s2' h
          exact X_notes_bad (t := t) s2' (fun d' s f4 => h d' s (fr.tr f4) (fun c' g' i' e => by cases e))
    · refine rr_f (lit_ne (b := 2) (by omega) (by omega) c2) ?_
      have es : sNt wX f n (r + 1) c i g = .inr (c, g, i) := by
        show (if tK f n i = 2 then _ else _) = _
        rw [if_neg c2]
      rw [es] at h
      refine X_sign hA (fun d' s f3 => h d' s (FN.of f3) (fun c' g' i' e => ?_))
      cases e
      exact ⟨h8, by rw [f3 14 (by omega)]; exact e14, fun j hj => by rw [f3 17 (by omega)]; exact e17 j hj⟩
end
section
theorem strLen7 : ∀ i : Fin 6, strLen.getD i.1 0 ≤ 7 := by decide +kernel
/-! ===== the class reads a tune's line; names; a line; all ===== -/
def g0 (v j : Nat) : Nat := if j = 0 then v else 0
def sTu (w : Nat → Nat) (f : Nat → Nat) (n i : Nat) : Sg := sB (fun i1 => sB (fun i2 => sB (fun i3 => sNtS f n (sNt w f n 8 1 i3 (g0 (tV f n i2)))) (sNum f n 0 9 i2)) (sNum f n 0 9 i1)) (sNum f n 1 9 i)
theorem X_tellTune {q : DD → Prop} {x0 : DD} {f : Nat → Nat} {n i k : Nat} {d : DD} {H : HH} (hS : XS f n x0 (.inr i) d) (hX : XH 12 d H) (h8 : O8 H) (hk : k ≤ 3) (hb : nT H < 4) (h : ∀ d', XS f n x0 (sTu wX f n i) d' → (∀ i1 i2 i3 c g i', sNum f n 1 9 i = .inr i1 → sNum f n 0 9 i1 = .inr i2 → sNum f n 0 9 i2 = .inr i3 → sNt wX f n 8 1 i3 (g0 (tV f n i2)) = .inr (c, g, i') → XH 12 d' (aT H k (tV f n i) (tV f n i1) c g)) → q d') : Cn SX MX3_tellTune [.ref 36, .ref 12, .int (nI k)] d (rV q) := by
  have e3 := hX.nt
  have vp : vp_in (nI (nT H)) 4 := vp_in_nI (by omega) (by omega)
  have e8 : nI (nT H) * 8 = nI (8 * nT H) := by rw [show (8 : Int32) = nI 8 from rfl, pk_mul, Nat.mul_comm]
  refine cn_X3_tellTune isH12 (br_t (by rw [e3]; exact (nI_ltI (b := 4) (by omega) (by omega)).mpr hb) (nm_e ?_))
  rw [e3, nI_1, nI_clamp (by omega), e8, nI_clamp (by omega)]
  refine ⟨vp, nm_e ?_⟩
  refine X_next (lo := 1) (hi := 9) ((hS.put (d' := up d 12 0 (nI (nT H + 1))) (fun a ha => up_ne a (by omega))).put (d' := up (up d 12 0 (nI (nT H + 1))) 13 (nT H) (nI k)) (fun a ha => up_ne a (by omega))) (by omega) (by omega) (fun v1 d1 _ _ s1 ev1 f1 => ⟨vp, nm_e ?_⟩)
  refine X_next (lo := 0) (hi := 9) (s1.put (d' := up d1 15 (nT H) (nI v1)) (fun a ha => up_ne a (by omega))) (by omega) (by omega) (fun v2 d2 _ _ s2 ev2 f2 => ⟨vp, nm_e ?_⟩)
  refine X_next (lo := 0) (hi := 9) (s2.put (d' := up d2 16 (nT H) (nI v2)) (fun a ha => up_ne a (by omega))) (by omega) (by omega) (fun v3 d3 _ _ s3 ev3 f3 => ⟨vp_in_nI (by omega) (by omega), nm_e ⟨vp, nm_e ?_⟩⟩)
  refine X_adv ((s3.put (d' := up d3 17 (8 * nT H) (nI v3)) (fun a ha => up_ne a (by omega))).put (d' := up (up d3 17 (8 * nT H) (nI v3)) 14 (nT H) 1) (fun a ha => up_ne a (by omega))) (fun d4 s4 f4 => ?_)
  have s4' : XA f n x0 (sB (sNum f n 0 9) (sB (sNum f n 0 9) (sNum f n 1 9 i))) d4 := s4
  have bad : ∀ e, XA f n x0 (.inl e) d4 → sTu wX f n i = .inl e → (∀ i1 i2 i3, sNum f n 1 9 i = .inr i1 → sNum f n 0 9 i1 = .inr i2 → sNum f n 0 9 i2 = .inr i3 → False) → Ev SX MX3_tellTune 93 [.ref 36, .ref 12, .int (nI k), .int (nI (nT H)), .int 1, uJ] [] d4 (rV q) := by
    intro e hA es no
    exact X_notes_bad (t := nT H) hA (fun d' s _ => h d' (by rw [es]; exact s) (fun i1 i2 i3 c g i' u1 u2 u3 u4 => absurd (no i1 i2 i3 u1 u2 u3) id))
  rcases z1 : sNum f n 1 9 i with e | i1
  · rw [z1] at s4'
    exact bad e s4' (by unfold sTu; rw [z1]; rfl) (fun i1 i2 i3 u1 _ _ => by rw [z1] at u1; cases u1)
  rw [z1] at s4'
  have s5' : XA f n x0 (sB (sNum f n 0 9) (sNum f n 0 9 i1)) d4 := s4'
  rcases z2 : sNum f n 0 9 i1 with e | i2
  · rw [z2] at s5'
    exact bad e s5' (by unfold sTu; rw [z1]; show sB _ (sNum f n 0 9 i1) = _; rw [z2]; rfl) (fun j1 j2 j3 u1 u2 _ => by rw [z1] at u1; cases u1; rw [z2] at u2; cases u2)
  rw [z2] at s5'
  have s6' : XA f n x0 (sNum f n 0 9 i2) d4 := s5'
  rcases z3 : sNum f n 0 9 i2 with e | i3
  · rw [z3] at s6'
    exact bad e s6' (by unfold sTu; rw [z1]; show sB _ (sNum f n 0 9 i1) = _; rw [z2]; show sB _ (sNum f n 0 9 i2) = _; rw [z3]; rfl) (fun j1 j2 j3 u1 u2 u3 => by rw [z1] at u1; cases u1; rw [z2] at u2; cases u2; rw [z3] at u3; cases u3)
  rw [z3] at s6'
  have w1 := ev1 i i1 rfl z1
  have w2 := ev2 i1 i2 z1 z2
  have w3 := ev3 i2 i3 (by show sB (sNum f n 0 9) (sNum f n 1 9 i) = _; rw [z1]; exact z2) z3
  subst w1 w2 w3
  have es : sTu wX f n i = sNtS f n (sNt wX f n 8 1 i3 (g0 (tV f n i2))) := by unfold sTu; rw [z1]; show sB _ (sNum f n 0 9 i1) = _; rw [z2]; show sB _ (sNum f n 0 9 i2) = _; rw [z3]; rfl
  refine X_notes (t := nT H) hb 8 1 i3 (g0 (tV f n i2)) d4 rfl (by omega) (by omega) s6' ?_ (fun j hj => ?_) (fun d' s fr ok => h d' (by rw [es]; exact s) (fun j1 j2 j3 c g i' u1 u2 u3 u4 => ?_))
  · rw [f4 14 (by omega), up_s]; rfl
  · rw [show j = 0 by omega, Nat.add_zero, f4 17 (by omega), up_n (by omega), up_s]; rfl
  · rw [z1] at u1; cases u1
    rw [z2] at u2; cases u2
    rw [z3] at u3; cases u3
    obtain ⟨o1, o2, o3⟩ := ok c g i' u4
    obtain ⟨r1, r2, r3⟩ := fr
    refine XH_aT h8 o1 hX (fun a j q1 q2 q3 q4 q5 => ?_) ?_ ?_ o2 ?_ ?_ o3
    · have e4 : d' a j = d4 a j := by
        by_cases y : a = 14
        · subst y; exact r2 j (by omega)
        · by_cases y2 : a = 17
          · subst y2; exact r3 j (by omega)
          · rw [r1 a (by omega) y y2]
      rw [e4, f4 a (by omega), up_n (by omega), up_n (by omega), f3 a (by omega), up_n (by omega), f2 a (by omega), up_n (by omega), f1 a (by omega), up_n (by omega), up_n (by omega)]
    · rw [r1 12 (by omega) (by omega) (by omega), f4 12 (by omega), up_n (by omega), up_n (by omega), f3 12 (by omega), up_n (by omega), f2 12 (by omega), up_n (by omega), f1 12 (by omega), up_n (by omega), up_s]
    · rw [r1 13 (by omega) (by omega) (by omega), f4 13 (by omega), up_n (by omega), up_n (by omega), f3 13 (by omega), up_n (by omega), f2 13 (by omega), up_n (by omega), f1 13 (by omega), up_s]
    · rw [r1 15 (by omega) (by omega) (by omega), f4 15 (by omega), up_n (by omega), up_n (by omega), f3 15 (by omega), up_n (by omega), f2 15 (by omega), up_s]
    · rw [r1 16 (by omega) (by omega) (by omega), f4 16 (by omega), up_n (by omega), up_n (by omega), f3 16 (by omega), up_s]
/-! names -/
theorem str_sh : ∀ k : Fin 6, (nI (strLen.getD k.1 0)) >>> ((0 : Int32) &&& 31) = nI (strLen.getD k.1 0) := by decide +kernel
theorem str_by : ∀ (k : Fin 6) (j : Fin 7), ((((strByt.getD k.1 []).getD j.1 0) &&& 255).toUInt32 % 65536).toInt32 = (strByt.getD k.1 []).getD j.1 0 := by decide +kernel
theorem str_nr : ∀ (k : Fin 6) (j : Fin 7), narrow .char (.int ((strByt.getD k.1 []).getD j.1 0)) = .int ((strByt.getD k.1 []).getD j.1 0) := by decide +kernel
theorem X_strlen {q : Int32 → DD → Prop} {d : DD} {k : Nat} (hk : k < 6) (h : q (nI (strLen.getD k 0)) d) : Cn SX MJ0_length_8abf5 [.ref (1000 + k)] d (rI q) := by
  refine cn_J0_length_8abf5 hk (cn_J0_coder_7d493 hk ?_)
  rw [str_sh ⟨k, hk⟩]; exact h
theorem X_charAt {q : Int32 → DD → Prop} {d : DD} {k j : Nat} (hk : k < 6) (hj : j < strLen.getD k 0) (h : q ((strByt.getD k []).getD j 0) d) : Cn SX MJ0_charAt_5068e [.ref (1000 + k), .int (nI j)] d (rI q) := by
  have h7 := strLen7 ⟨k, hk⟩
  have hj7 : j < 7 := Nat.lt_of_lt_of_le hj h7
  have hl : strLen.getD k 0 < 2 ^ 31 := Nat.lt_of_le_of_lt h7 (by decide)
  refine cn_J0_charAt_5068e hk (cn_J0_isLatin1_aae02 hk (y1' (cn_J1_charAt_3b067 hk (cn_J0_checkIndex_df160 (fun v1 hv1 => cn_J3_checkIndex_8e157 hv1 (br_f ?_ (br_t ?_ ⟨vp_in_nI hj hl, ?_⟩)))))))
  · rw [li_0]; exact fun c => absurd ((nI_ltI (by omega) (by omega)).mp c) (by omega)
  · exact (nI_ltI (by omega) hl).mpr hj
  · rw [nI_clamp (by omega), str_by ⟨k, hk⟩ ⟨j, hj7⟩]
    exact ⟨str_nr ⟨k, hk⟩ ⟨j, hj7⟩, str_nr ⟨k, hk⟩ ⟨j, hj7⟩, h⟩
/-- the name k stands from p to e -/
def nmI (f : Nat → Nat) (k p e : Nat) : Bool := decide (e - p = strLen.getD k 0) && (List.range (strLen.getD k 0)).all (fun j => decide (nI (f (p + j)) = (strByt.getD k []).getD j 0))
theorem nmI_t {f : Nat → Nat} {k p e : Nat} (h1 : e - p = strLen.getD k 0) (h2 : ∀ j, j < strLen.getD k 0 → nI (f (p + j)) = (strByt.getD k []).getD j 0) : nmI f k p e = true := by
  unfold nmI
  rw [decide_eq_true h1, Bool.true_and, List.all_eq_true]
  intro j hj
  exact decide_eq_true (h2 j (List.mem_range.mp hj))
theorem nmI_f {f : Nat → Nat} {k p e j : Nat} (h1 : j < strLen.getD k 0) (h2 : nI (f (p + j)) ≠ (strByt.getD k []).getD j 0) : nmI f k p e = false := by
  rw [Bool.eq_false_iff]
  intro z
  unfold nmI at z
  rw [Bool.and_eq_true, List.all_eq_true] at z
  exact h2 (of_decide_eq_true (z.2 j (List.mem_range.mpr h1)))
theorem nmI_l {f : Nat → Nat} {k p e : Nat} (h1 : e - p ≠ strLen.getD k 0) : nmI f k p e = false := by
  unfold nmI
  rw [decide_eq_false h1, Bool.false_and]
theorem X_isName {q : Int32 → DD → Prop} {x0 : DD} {f : Nat → Nat} {n i k : Nat} {d : DD} (hB : XB f n x0 d) (hi : i ≤ n) (hT : XTk f n i d) (hk : k < 6) (h : q (b2 (decide (tK f n i = 1) && nmI f k (tP f n i) (tN f n i))) d) : Cn SX MX3_isName [.ref 36, .ref (1000 + k)] d (rI q) := by
  have hn := hB.1
  have h7 := strLen7 ⟨k, hk⟩
  have h7' : strLen.getD k 0 ≤ 7 := h7
  have hK := tK_le (f := f) (n := n) (i := i)
  have hle := tN_le (f := f) hi
  have hge := tN_ge (f := f) (n := n) (i := i)
  refine cn_X3_isName hk ?_
  rw [hT.1]
  by_cases c1 : tK f n i = 1
  · rw [decide_eq_true c1, Bool.true_and] at h
    refine rr_t (by rw [c1]; rfl) (X_strlen hk ?_)
    rw [hT.2.1, hT.2.2, pk_sub hge]
    by_cases cl : tN f n i - tP f n i = strLen.getD k 0
    · refine br_t (by rw [cl]) ?_
      rw [li_0]
      suffices hs : ∀ r j, r + j = strLen.getD k 0 → (∀ y, y < j → nI (f (tP f n i + y)) = (strByt.getD k []).getD y 0) → Ev SX MX3_isName 28 [.ref 36, .ref (1000 + k), .int (nI j)] [] d (rI q) from hs _ 0 (Nat.add_zero _) (fun y hy => absurd hy (Nat.not_lt_zero y))
      intro r
      induction r with
      | zero =>
        intro j hj ha
        refine bk_X3_isName_28 hk (X_strlen hk (br_t (nI_le (by omega) (by omega)) ?_))
        rw [nmI_t cl (fun y hy => ha y (by omega))] at h
        exact h
      | succ r ih =>
        intro j hj ha
        have hjl : j < strLen.getD k 0 := by omega
        refine bk_X3_isName_28 hk (X_strlen hk (br_f (fun z => absurd ((nI_leI (by omega) (by omega)).mp z) (by omega)) ?_))
        rw [hT.2.1, nI_add, nI_1]
        refine ⟨vp_in_nI (by omega) (by omega), X_charAt hk hjl ?_⟩
        rw [nI_clamp (by omega), hB.2.2.2.1 _ (by omega)]
        by_cases ce : nI (f (tP f n i + j)) = (strByt.getD k []).getD j 0
        · refine br_t ce (ih (j + 1) (by omega) (fun y hy => ?_))
          by_cases cy : y = j
          · rw [cy]; exact ce
          · exact ha y (by omega)
        · rw [nmI_f hjl ce] at h
          exact br_f ce h
    · rw [nmI_l cl] at h
      exact br_f (lit_ne (by omega) (by omega) cl) h
  · rw [decide_eq_false c1, Bool.false_and] at h
    exact rr_f (lit_ne (b := 1) (by omega) (by omega) c1) h
end
section
/-! ===== lines, purely: a FAULT, or the house and the place behind ===== -/
abbrev Rl : Type := Sum (Nat × Nat) (HH × Nat)
def rB {α : Type} (g : Nat → Sum (Nat × Nat) α) : Sg → Sum (Nat × Nat) α
  | .inl e => .inl e
  | .inr i => g i
def rTu (w : Nat → Nat) (f : Nat → Nat) (n i k : Nat) (H : HH) : Rl := rB (fun i1 => rB (fun i2 => rB (fun i3 => match sNt w f n 8 1 i3 (g0 (tV f n i2)) with
  | .inl e => .inl e
  | .inr z => rB (fun i4 => .inr (aT H k (tV f n i) (tV f n i1) z.1 z.2.1, i4)) (sSgn f n z.2.2)) (sNum f n 0 9 i2)) (sNum f n 0 9 i1)) (sNum f n 1 9 i)
def rPl (f : Nat → Nat) (n i : Nat) (H : HH) : Rl := rB (fun i1 => rB (fun i2 => rB (fun i3 => rB (fun i4 => rB (fun i5 => .inr (aP H (tV f n i) (tV f n i1) (tV f n i2) (tV f n i3), i5)) (sSgn f n i4)) (sNum f n 0 3 i3)) (sNum f n 0 9 i2)) (sNum f n 1 99 i1)) (sNum f n 0 9 i)
def rBd (f : Nat → Nat) (n i : Nat) (H : HH) : Rl := rB (fun i1 => rB (fun i2 => .inr (aB H (tV f n i), i2)) (sSgn f n i1)) (sNum f n 0 3 i)
def nmK (f : Nat → Nat) (n i k : Nat) : Bool := decide (tK f n i = 1) && nmI f k (tP f n i) (tN f n i)
/-- a line of which the first token is the one behind i -/
def sLn (w : Nat → Nat) (f : Nat → Nat) (n i : Nat) (H : HH) : Rl :=
  if tK f n i = 4 then .inl (1, tP f n i)
  else if nmK f n i 0 = true then (if nT H < 4 then rTu w f n (tN f n i) 0 H else .inl (5, tP f n i))
  else if nmK f n i 1 = true then (if nT H < 4 then rTu w f n (tN f n i) 1 H else .inl (5, tP f n i))
  else if nmK f n i 2 = true then (if nT H < 4 then rTu w f n (tN f n i) 2 H else .inl (5, tP f n i))
  else if nmK f n i 3 = true then (if nT H < 4 then rTu w f n (tN f n i) 3 H else .inl (5, tP f n i))
  else if nmK f n i 4 = true then (if nP H < 4 then rPl f n (tN f n i) H else .inl (5, tP f n i))
  else if nmK f n i 5 = true then (if nB H < 6 then rBd f n (tN f n i) H else .inl (5, tP f n i))
  else .inl (2, tP f n i)
/-- what the class has behind a line -/
def PLn (f : Nat → Nat) (n : Nat) (x0 : DD) (R : Rl) (d : DD) : Prop := match R with
  | .inl e => XS f n x0 (.inl e) d
  | .inr z => XS f n x0 (.inr z.2) d ∧ XH 12 d z.1
theorem PL_Tu {f : Nat → Nat} {n i k : Nat} {x0 d : DD} {H : HH} (hS : XS f n x0 (sTu wX f n i) d) (ho : ∀ i1 i2 i3 c g i', sNum f n 1 9 i = .inr i1 → sNum f n 0 9 i1 = .inr i2 → sNum f n 0 9 i2 = .inr i3 → sNt wX f n 8 1 i3 (g0 (tV f n i2)) = .inr (c, g, i') → XH 12 d (aT H k (tV f n i) (tV f n i1) c g)) : PLn f n x0 (rTu wX f n i k H) d := by
  unfold rTu
  unfold sTu at hS
  rcases z1 : sNum f n 1 9 i with e | i1
  · rw [z1] at hS; exact hS
  rw [z1] at hS
  have hS : XS f n x0 (sB (fun i2 => sB (fun i3 => sNtS f n (sNt wX f n 8 1 i3 (g0 (tV f n i2)))) (sNum f n 0 9 i2)) (sNum f n 0 9 i1)) d := hS
  show PLn f n x0 (rB _ (sNum f n 0 9 i1)) d
  rcases z2 : sNum f n 0 9 i1 with e | i2
  · rw [z2] at hS; exact hS
  rw [z2] at hS
  have hS : XS f n x0 (sB (fun i3 => sNtS f n (sNt wX f n 8 1 i3 (g0 (tV f n i2)))) (sNum f n 0 9 i2)) d := hS
  show PLn f n x0 (rB _ (sNum f n 0 9 i2)) d
  rcases z3 : sNum f n 0 9 i2 with e | i3
  · rw [z3] at hS; exact hS
  rw [z3] at hS
  have hS : XS f n x0 (sNtS f n (sNt wX f n 8 1 i3 (g0 (tV f n i2)))) d := hS
  have ho := ho i1 i2 i3
  show PLn f n x0 (match sNt wX f n 8 1 i3 (g0 (tV f n i2)) with
    | .inl e => .inl e
    | .inr z => rB (fun i4 => .inr (aT H k (tV f n i) (tV f n i1) z.1 z.2.1, i4)) (sSgn f n z.2.2)) d
  rcases z4 : sNt wX f n 8 1 i3 (g0 (tV f n i2)) with e | ⟨c, g, i'⟩
  · rw [z4] at hS; exact hS
  rw [z4] at hS
  have hS : XS f n x0 (sSgn f n i') d := hS
  have ho := ho c g i' z1 z2 z3 z4
  show PLn f n x0 (rB _ (sSgn f n i')) d
  rcases z5 : sSgn f n i' with e | i4
  · rw [z5] at hS; exact hS
  rw [z5] at hS
  exact ⟨hS, ho⟩
theorem PL_Pl {f : Nat → Nat} {n i : Nat} {x0 d : DD} {H : HH} (hS : XS f n x0 (sPl f n i) d) (ho : ∀ i1 i2 i3 i4, sNum f n 0 9 i = .inr i1 → sNum f n 1 99 i1 = .inr i2 → sNum f n 0 9 i2 = .inr i3 → sNum f n 0 3 i3 = .inr i4 → XH 12 d (aP H (tV f n i) (tV f n i1) (tV f n i2) (tV f n i3))) : PLn f n x0 (rPl f n i H) d := by
  unfold rPl
  unfold sPl at hS
  rcases z1 : sNum f n 0 9 i with e | i1
  · rw [z1] at hS; exact hS
  rw [z1] at hS
  have hS : XS f n x0 (sB (sSgn f n) (sB (sNum f n 0 3) (sB (sNum f n 0 9) (sNum f n 1 99 i1)))) d := hS
  show PLn f n x0 (rB _ (sNum f n 1 99 i1)) d
  rcases z2 : sNum f n 1 99 i1 with e | i2
  · rw [z2] at hS; exact hS
  rw [z2] at hS
  have hS : XS f n x0 (sB (sSgn f n) (sB (sNum f n 0 3) (sNum f n 0 9 i2))) d := hS
  show PLn f n x0 (rB _ (sNum f n 0 9 i2)) d
  rcases z3 : sNum f n 0 9 i2 with e | i3
  · rw [z3] at hS; exact hS
  rw [z3] at hS
  have hS : XS f n x0 (sB (sSgn f n) (sNum f n 0 3 i3)) d := hS
  show PLn f n x0 (rB _ (sNum f n 0 3 i3)) d
  rcases z4 : sNum f n 0 3 i3 with e | i4
  · rw [z4] at hS; exact hS
  rw [z4] at hS
  have hS : XS f n x0 (sSgn f n i4) d := hS
  show PLn f n x0 (rB _ (sSgn f n i4)) d
  rcases z5 : sSgn f n i4 with e | i5
  · rw [z5] at hS; exact hS
  rw [z5] at hS
  exact ⟨hS, ho i1 i2 i3 i4 z1 z2 z3 z4⟩
theorem PL_Bd {f : Nat → Nat} {n i : Nat} {x0 d : DD} {H : HH} (hS : XS f n x0 (sBd f n i) d) (ho : ∀ i1, sNum f n 0 3 i = .inr i1 → XH 12 d (aB H (tV f n i))) : PLn f n x0 (rBd f n i H) d := by
  unfold rBd
  unfold sBd at hS
  rcases z1 : sNum f n 0 3 i with e | i1
  · rw [z1] at hS; exact hS
  rw [z1] at hS
  have hS : XS f n x0 (sSgn f n i1) d := hS
  show PLn f n x0 (rB _ (sSgn f n i1)) d
  rcases z5 : sSgn f n i1 with e | i5
  · rw [z5] at hS; exact hS
  rw [z5] at hS
  exact ⟨hS, ho i1 z1⟩
/-- between lines: what is told so far is in its bounds -/
def OKw (H : HH) : Prop := nT H ≤ 4 ∧ nP H ≤ 4 ∧ nB H ≤ 6 ∧ (∀ t, t < nT H → OKt H t) ∧ (∀ p, p < nP H → H 5 p ≤ 9 ∧ 1 ≤ H 6 p ∧ H 6 p ≤ 99 ∧ H 7 p ≤ 9 ∧ H 8 p ≤ 3) ∧ ∀ q, q < nB H → H 9 q ≤ 3
theorem OKw.o8 {H : HH} (h : OKw H) : O8 H := fun t ht => (h.2.2.2.1 t ht).2.2.1
theorem sNum_r {f : Nat → Nat} {n lo hi i i' : Nat} (h : sNum f n lo hi i = .inr i') : lo ≤ tV f n i ∧ tV f n i ≤ hi ∧ i' = tN f n i ∧ tK f n i = 2 := by
  unfold sNum at h
  split at h
  · cases h
  · split at h
    · split at h
      · rename_i a b c; cases h; exact ⟨c.1, c.2, rfl, b⟩
      · cases h
    · cases h
theorem sSgn_r {f : Nat → Nat} {n i i' : Nat} (h : sSgn f n i = .inr i') : i' = tN f n i ∧ tK f n i = 3 := by
  unfold sSgn at h
  split at h
  · cases h
  · split at h
    · rename_i a b; cases h; exact ⟨rfl, b⟩
    · cases h
theorem stepN {f : Nat → Nat} {n i i' : Nat} (hi : i ≤ n) (e : i' = tN f n i) (hk : tK f n i ≠ 0) : i < i' ∧ i' ≤ n := by
  subst e
  exact ⟨tN_gt hi hk, tN_le hi⟩
theorem sNt_r {w : Nat → Nat} {f : Nat → Nat} {n : Nat} : ∀ r c i g c' g' i', r + c = 9 → 1 ≤ c → c ≤ 8 → i ≤ n → (∀ j, j < c → g j ≤ 9) → sNt w f n r c i g = .inr (c', g', i') → 1 ≤ c' ∧ c' ≤ 8 ∧ i ≤ i' ∧ i' ≤ n ∧ ∀ j, j < c' → g' j ≤ 9 := by
  intro r
  induction r with
  | zero => intro c i g c' g' i' h1 h2 h3; omega
  | succ r ih =>
    intro c i g c' g' i' h1 h2 h3 hi hg e
    have e : (if tK f n i = 2 then (if c = 8 then (.inl (w (tV f n i), tP f n i) : Sum (Nat × Nat) (Nat × (Nat → Nat) × Nat)) else if tV f n i ≤ 9 then sNt w f n r (c + 1) (tN f n i) (fun j => if j = c then tV f n i else g j) else .inl (3, tP f n i)) else .inr (c, g, i)) = .inr (c', g', i') := e
    by_cases c2 : tK f n i = 2
    · rw [if_pos c2] at e
      by_cases c8 : c = 8
      · rw [if_pos c8] at e; cases e
      · rw [if_neg c8] at e
        by_cases z : tV f n i ≤ 9
        · rw [if_pos z] at e
          have st := stepN hi rfl (show tK f n i ≠ 0 by omega)
          obtain ⟨a1, a2, a3, a4, a5⟩ := ih (c + 1) _ _ c' g' i' (by omega) (by omega) (by omega) st.2 (fun j hj => by
            show (if j = c then _ else _) ≤ 9
            split
            · exact z
            · exact hg j (by omega)) e
          exact ⟨a1, a2, (by omega), a4, a5⟩
        · rw [if_neg z] at e; cases e
    · rw [if_neg c2] at e
      cases e
      exact ⟨h2, h3, Nat.le_refl _, hi, hg⟩
theorem OKw_aT {H : HH} {k tm sr c : Nat} {g : Nat → Nat} (h : OKw H) (ht : nT H < 4) (hk : k ≤ 3) (h1 : 1 ≤ tm ∧ tm ≤ 9) (h2 : sr ≤ 9) (hc : 1 ≤ c ∧ c ≤ 8) (hg : ∀ j, j < c → g j ≤ 9) : OKw (aT H k tm sr c g) := by
  obtain ⟨a1, a2, a3, a4, a5, a6⟩ := h
  have e0 : nT (aT H k tm sr c g) = nT H + 1 := by show aT H k tm sr c g 10 0 = _; unfold aT; rw [if_neg (by omega), if_neg (by omega), if_neg (by omega), if_neg (by omega), if_neg (by omega), if_pos ⟨rfl, rfl⟩]
  have e1 : nP (aT H k tm sr c g) = nP H := by show aT H k tm sr c g 10 1 = _; unfold aT; rw [if_neg (by omega), if_neg (by omega), if_neg (by omega), if_neg (by omega), if_neg (by omega), if_neg (by omega)]
  have e2 : nB (aT H k tm sr c g) = nB H := by show aT H k tm sr c g 10 2 = _; unfold aT; rw [if_neg (by omega), if_neg (by omega), if_neg (by omega), if_neg (by omega), if_neg (by omega), if_neg (by omega)]
  have ee : ∀ a j, 5 ≤ a ∧ a ≤ 9 → aT H k tm sr c g a j = H a j := fun a j h => by unfold aT; rw [if_neg (by omega), if_neg (by omega), if_neg (by omega), if_neg (by omega), if_neg (by omega), if_neg (by omega)]
  refine ⟨by rw [e0]; omega, by rw [e1]; exact a2, by rw [e2]; exact a3, fun t ht2 => ?_, fun p hp => ?_, fun q hq => ?_⟩
  · rw [e0] at ht2
    by_cases z : t = nT H
    · subst z
      have c1 : aT H k tm sr c g 1 (nT H) = c := by unfold aT; rw [if_neg (by omega), if_pos ⟨rfl, rfl⟩]
      refine ⟨?_, ?_, ?_, ?_, ?_, ?_, fun i hi => ?_⟩
      · rw [show aT H k tm sr c g 0 (nT H) = k from if_pos ⟨rfl, rfl⟩]; exact hk
      · rw [c1]; exact hc.1
      · rw [c1]; exact hc.2
      · rw [show aT H k tm sr c g 2 (nT H) = tm from by unfold aT; rw [if_neg (by omega), if_neg (by omega), if_pos ⟨rfl, rfl⟩]]; exact h1.1
      · rw [show aT H k tm sr c g 2 (nT H) = tm from by unfold aT; rw [if_neg (by omega), if_neg (by omega), if_pos ⟨rfl, rfl⟩]]; exact h1.2
      · rw [show aT H k tm sr c g 3 (nT H) = sr from by unfold aT; rw [if_neg (by omega), if_neg (by omega), if_neg (by omega), if_pos ⟨rfl, rfl⟩]]; exact h2
      · rw [c1] at hi
        rw [show aT H k tm sr c g 4 (8 * nT H + i) = g i from by unfold aT; rw [if_neg (by omega), if_neg (by omega), if_neg (by omega), if_neg (by omega), if_pos ⟨rfl, (by omega), (by omega)⟩, Nat.add_sub_cancel_left]]
        exact hg i hi
    · have ht3 : t < nT H := by omega
      have ej : ∀ a, a ≤ 3 → aT H k tm sr c g a t = H a t := fun a h => by unfold aT; rw [if_neg (by omega), if_neg (by omega), if_neg (by omega), if_neg (by omega), if_neg (by omega), if_neg (by omega)]
      obtain ⟨b1, b2, b3, b4, b5, b6, b7⟩ := a4 t ht3
      refine ⟨by rw [ej 0 (by omega)]; exact b1, by rw [ej 1 (by omega)]; exact b2, by rw [ej 1 (by omega)]; exact b3, by rw [ej 2 (by omega)]; exact b4, by rw [ej 2 (by omega)]; exact b5, by rw [ej 3 (by omega)]; exact b6, fun i hi => ?_⟩
      rw [ej 1 (by omega)] at hi
      rw [show aT H k tm sr c g 4 (8 * t + i) = H 4 (8 * t + i) from by unfold aT; rw [if_neg (by omega), if_neg (by omega), if_neg (by omega), if_neg (by omega), if_neg (by omega), if_neg (by omega)]]
      exact b7 i hi
  · rw [e1] at hp
    rw [ee 5 _ (by omega), ee 6 _ (by omega), ee 7 _ (by omega), ee 8 _ (by omega)]; exact a5 p hp
  · rw [e2] at hq
    rw [ee 9 _ (by omega)]; exact a6 q hq
theorem OKw_aP {H : HH} {s b p w : Nat} (h : OKw H) (ht : nP H < 4) (h1 : s ≤ 9) (h2 : 1 ≤ b ∧ b ≤ 99) (h3 : p ≤ 9) (h4 : w ≤ 3) : OKw (aP H s b p w) := by
  obtain ⟨a1, a2, a3, a4, a5, a6⟩ := h
  have e0 : nT (aP H s b p w) = nT H := by show aP H s b p w 10 0 = _; unfold aP; rw [if_neg (by omega), if_neg (by omega), if_neg (by omega), if_neg (by omega), if_neg (by omega)]
  have e1 : nP (aP H s b p w) = nP H + 1 := by show aP H s b p w 10 1 = _; unfold aP; rw [if_neg (by omega), if_neg (by omega), if_neg (by omega), if_neg (by omega), if_pos ⟨rfl, rfl⟩]
  have e2 : nB (aP H s b p w) = nB H := by show aP H s b p w 10 2 = _; unfold aP; rw [if_neg (by omega), if_neg (by omega), if_neg (by omega), if_neg (by omega), if_neg (by omega)]
  have ee : ∀ a j, a ≤ 4 ∨ a = 9 → aP H s b p w a j = H a j := fun a j h => by unfold aP; rw [if_neg (by omega), if_neg (by omega), if_neg (by omega), if_neg (by omega), if_neg (by omega)]
  refine ⟨by rw [e0]; exact a1, by rw [e1]; omega, by rw [e2]; exact a3, fun t ht2 => ?_, fun q hq => ?_, fun q hq => ?_⟩
  · rw [e0] at ht2
    unfold OKt
    rw [ee 0 _ (by omega), ee 1 _ (by omega), ee 2 _ (by omega), ee 3 _ (by omega)]
    obtain ⟨b1, b2, b3, b4, b5, b6, b7⟩ := a4 t ht2
    exact ⟨b1, b2, b3, b4, b5, b6, fun i hi => by rw [ee 4 _ (by omega)]; exact b7 i hi⟩
  · rw [e1] at hq
    by_cases c : q = nP H
    · subst c
      rw [show aP H s b p w 5 (nP H) = s from if_pos ⟨rfl, rfl⟩, show aP H s b p w 6 (nP H) = b from by unfold aP; rw [if_neg (by omega), if_pos ⟨rfl, rfl⟩], show aP H s b p w 7 (nP H) = p from by unfold aP; rw [if_neg (by omega), if_neg (by omega), if_pos ⟨rfl, rfl⟩], show aP H s b p w 8 (nP H) = w from by unfold aP; rw [if_neg (by omega), if_neg (by omega), if_neg (by omega), if_pos ⟨rfl, rfl⟩]]
      exact ⟨h1, h2.1, h2.2, h3, h4⟩
    · have ej : ∀ a, a ≤ 9 → aP H s b p w a q = H a q := fun a h => by unfold aP; rw [if_neg (by omega), if_neg (by omega), if_neg (by omega), if_neg (by omega), if_neg (by omega)]
      rw [ej 5 (by omega), ej 6 (by omega), ej 7 (by omega), ej 8 (by omega)]
      exact a5 q (by omega)
  · rw [e2] at hq
    rw [ee 9 _ (by omega)]; exact a6 q hq
theorem OKw_aB {H : HH} {v : Nat} (h : OKw H) (ht : nB H < 6) (h1 : v ≤ 3) : OKw (aB H v) := by
  obtain ⟨a1, a2, a3, a4, a5, a6⟩ := h
  have e0 : nT (aB H v) = nT H := by show aB H v 10 0 = _; unfold aB; rw [if_neg (by omega), if_neg (by omega)]
  have e1 : nP (aB H v) = nP H := by show aB H v 10 1 = _; unfold aB; rw [if_neg (by omega), if_neg (by omega)]
  have e2 : nB (aB H v) = nB H + 1 := by show aB H v 10 2 = _; unfold aB; rw [if_neg (by omega), if_pos ⟨rfl, rfl⟩]
  have ee : ∀ a j, a ≤ 8 → aB H v a j = H a j := fun a j h => by unfold aB; rw [if_neg (by omega), if_neg (by omega)]
  refine ⟨by rw [e0]; exact a1, by rw [e1]; exact a2, by rw [e2]; omega, fun t ht2 => ?_, fun q hq => ?_, fun q hq => ?_⟩
  · rw [e0] at ht2
    unfold OKt
    rw [ee 0 _ (by omega), ee 1 _ (by omega), ee 2 _ (by omega), ee 3 _ (by omega)]
    obtain ⟨b1, b2, b3, b4, b5, b6, b7⟩ := a4 t ht2
    exact ⟨b1, b2, b3, b4, b5, b6, fun i hi => by rw [ee 4 _ (by omega)]; exact b7 i hi⟩
  · rw [e1] at hq
    rw [ee 5 _ (by omega), ee 6 _ (by omega), ee 7 _ (by omega), ee 8 _ (by omega)]
    exact a5 q hq
  · rw [e2] at hq
    by_cases c : q = nB H
    · subst c
      rw [show aB H v 9 (nB H) = v from if_pos ⟨rfl, rfl⟩]; exact h1
    · rw [show aB H v 9 q = H 9 q from by unfold aB; rw [if_neg (by omega), if_neg (by omega)]]
      exact a6 q (by omega)
end
section
/-- a line that is taken: on, and in its bounds -/
theorem sLn_r {w : Nat → Nat} {f : Nat → Nat} {n i i' : Nat} {H H' : HH} (hi : i ≤ n) (ok : OKw H) (h : sLn w f n i H = .inr (H', i')) : i < i' ∧ i' ≤ n ∧ OKw H' := by
  have tu : ∀ k, k ≤ 3 → tK f n i ≠ 0 → (if nT H < 4 then rTu w f n (tN f n i) k H else .inl (5, tP f n i)) = .inr (H', i') → i < i' ∧ i' ≤ n ∧ OKw H' := by
    intro k hk h0 e
    have st := stepN hi rfl h0
    by_cases c : nT H < 4
    · rw [if_pos c] at e
      unfold rTu at e
      rcases z1 : sNum f n 1 9 (tN f n i) with e1 | i1
      · rw [z1] at e; cases e
      rw [z1] at e
      have e : rB _ (sNum f n 0 9 i1) = .inr (H', i') := e
      rcases z2 : sNum f n 0 9 i1 with e1 | i2
      · rw [z2] at e; cases e
      rw [z2] at e
      have e : rB _ (sNum f n 0 9 i2) = .inr (H', i') := e
      rcases z3 : sNum f n 0 9 i2 with e1 | i3
      · rw [z3] at e; cases e
      rw [z3] at e
      have e : (match sNt w f n 8 1 i3 (g0 (tV f n i2)) with
        | .inl e => .inl e
        | .inr z => rB (fun i4 => .inr (aT H k (tV f n (tN f n i)) (tV f n i1) z.1 z.2.1, i4)) (sSgn f n z.2.2) : Rl) = .inr (H', i') := e
      rcases z4 : sNt w f n 8 1 i3 (g0 (tV f n i2)) with e1 | ⟨c', g', i4⟩
      · rw [z4] at e; cases e
      rw [z4] at e
      have e : rB _ (sSgn f n i4) = .inr (H', i') := e
      rcases z5 : sSgn f n i4 with e1 | i5
      · rw [z5] at e; cases e
      rw [z5] at e
      cases e
      obtain ⟨a1, a2, a3, a4⟩ := sNum_r z1
      obtain ⟨b1, b2, b3, b4⟩ := sNum_r z2
      obtain ⟨c1, c2, c3, c4⟩ := sNum_r z3
      have s1 := stepN st.2 a3 (by omega)
      have s2 := stepN s1.2 b3 (by omega)
      have s3 := stepN s2.2 c3 (by omega)
      obtain ⟨d1, d2, d3, d4, d5⟩ := sNt_r 8 1 i3 _ c' g' i4 rfl (by omega) (by omega) s3.2 (fun j hj => by
        show (if j = 0 then _ else 0) ≤ 9
        split
        · exact c2
        · omega) z4
      obtain ⟨f1, f2⟩ := sSgn_r z5
      have s4 := stepN d4 f1 (by omega)
      exact ⟨(by omega), s4.2, OKw_aT ok c hk ⟨a1, a2⟩ b2 ⟨d1, d2⟩ d5⟩
    · rw [if_neg c] at e; cases e
  have nk : ∀ k, nmK f n i k = true → tK f n i ≠ 0 := by
    intro k hk z
    unfold nmK at hk
    rw [Bool.and_eq_true] at hk
    have := of_decide_eq_true hk.1
    omega
  unfold sLn at h
  split at h
  · cases h
  split at h
  · rename_i c; exact tu 0 (by omega) (nk _ c) h
  split at h
  · rename_i c; exact tu 1 (by omega) (nk _ c) h
  split at h
  · rename_i c; exact tu 2 (by omega) (nk _ c) h
  split at h
  · rename_i c; exact tu 3 (by omega) (nk _ c) h
  split at h
  · rename_i c0
    have h0 := nk _ c0
    have st := stepN hi rfl h0
    by_cases c : nP H < 4
    · rw [if_pos c] at h
      unfold rPl at h
      rcases z1 : sNum f n 0 9 (tN f n i) with e1 | i1
      · rw [z1] at h; cases h
      rw [z1] at h
      have h : rB _ (sNum f n 1 99 i1) = .inr (H', i') := h
      rcases z2 : sNum f n 1 99 i1 with e1 | i2
      · rw [z2] at h; cases h
      rw [z2] at h
      have h : rB _ (sNum f n 0 9 i2) = .inr (H', i') := h
      rcases z3 : sNum f n 0 9 i2 with e1 | i3
      · rw [z3] at h; cases h
      rw [z3] at h
      have h : rB _ (sNum f n 0 3 i3) = .inr (H', i') := h
      rcases z4 : sNum f n 0 3 i3 with e1 | i4
      · rw [z4] at h; cases h
      rw [z4] at h
      have h : rB _ (sSgn f n i4) = .inr (H', i') := h
      rcases z5 : sSgn f n i4 with e1 | i5
      · rw [z5] at h; cases h
      rw [z5] at h
      cases h
      obtain ⟨a1, a2, a3, a4⟩ := sNum_r z1
      obtain ⟨b1, b2, b3, b4⟩ := sNum_r z2
      obtain ⟨c1, c2, c3, c4⟩ := sNum_r z3
      obtain ⟨d1, d2, d3, d4⟩ := sNum_r z4
      obtain ⟨f1, f2⟩ := sSgn_r z5
      have s1 := stepN st.2 a3 (by omega)
      have s2 := stepN s1.2 b3 (by omega)
      have s3 := stepN s2.2 c3 (by omega)
      have s4 := stepN s3.2 d3 (by omega)
      have s5 := stepN s4.2 f1 (by omega)
      exact ⟨(by omega), s5.2, OKw_aP ok c a2 ⟨b1, b2⟩ c2 d2⟩
    · rw [if_neg c] at h; cases h
  split at h
  · rename_i c0
    have h0 := nk _ c0
    have st := stepN hi rfl h0
    by_cases c : nB H < 6
    · rw [if_pos c] at h
      unfold rBd at h
      rcases z1 : sNum f n 0 3 (tN f n i) with e1 | i1
      · rw [z1] at h; cases h
      rw [z1] at h
      have h : rB _ (sSgn f n i1) = .inr (H', i') := h
      rcases z5 : sSgn f n i1 with e1 | i5
      · rw [z5] at h; cases h
      rw [z5] at h
      cases h
      obtain ⟨a1, a2, a3, a4⟩ := sNum_r z1
      obtain ⟨f1, f2⟩ := sSgn_r z5
      have s1 := stepN st.2 a3 (by omega)
      have s5 := stepN s1.2 f1 (by omega)
      exact ⟨(by omega), s5.2, OKw_aB ok c a2⟩
    · rw [if_neg c] at h; cases h
  · cases h
theorem XA.toS {f : Nat → Nat} {n i : Nat} {x0 d : DD} (h : XA f n x0 (.inr i) d) : XS f n x0 (.inr (tN f n i)) d := by
  obtain ⟨h1, h2, i', h3, h4, h5⟩ := h
  have := h5 i rfl
  subst this
  exact ⟨h1, h2, tN f n i, tN_le h3, h4.2.2, fun j e => by cases e; rfl⟩
theorem X_tellLine {q : DD → Prop} {x0 : DD} {f : Nat → Nat} {n i : Nat} {d : DD} {H : HH} (hA : XA f n x0 (.inr i) d) (hX : XH 12 d H) (ok : OKw H) (h : ∀ d', PLn f n x0 (sLn wX f n i H) d' → q d') : Cn SX MX3_tellLine [.ref 36, .ref 12] d (rV q) := by
  obtain ⟨hB, hF, i', hi, hT, hj⟩ := id hA
  have hii := hj i rfl
  subst hii
  have hn := hB.1
  have hK := tK_le (f := f) (n := n) (i := i)
  have hS := hA.toS
  have bad : ∀ c, 1 ≤ c → c ≤ 6 → sLn wX f n i H = .inl (c, tP f n i) → Cn SX MX3_fail [.ref 36, .int (nI c), .int (d 36 5)] d (rV fun d20 => q d20) := by
    intro c h1 h6 es
    exact X_failT hA h1 h6 fun d' g1 g2 g3 => h d' (by rw [es]; exact g1)
  have tu : ∀ k, k ≤ 3 → sLn wX f n i H = (if nT H < 4 then rTu wX f n (tN f n i) k H else .inl (5, tP f n i)) → Cn SX MX3_tellTune [.ref 36, .ref 12, .int (nI k)] d (rV fun d26 => q d26) := by
    intro k hk es
    by_cases c : nT H < 4
    · rw [if_pos c] at es
      exact X_tellTune hS hX ok.o8 hk c (fun d' s o => h d' (by rw [es]; exact PL_Tu s o))
    · rw [if_neg c] at es
      refine cn_X3_tellTune isH12 (br_f ?_ (bad 5 (by omega) (by omega) es))
      rw [hX.nt]
      have := ok.1
      exact fun z => absurd ((nI_ltI (b := 4) (by omega) (by omega)).mp z) c
  have nm : ∀ k, k < 6 → ∀ {A B : DD → Prop}, (nmK f n i k = true → B d) → (nmK f n i k = false → A d) → Cn SX MX3_isName [.ref 36, .ref (1000 + k)] d (rI fun r3 d2 => (r3 = 0 → A d2) ∧ (¬ r3 = 0 → B d2)) := by
    intro k hk A B hb ha
    refine X_isName hB hi hT hk ?_
    cases hm : nmK f n i k
    · have hm' : (decide (tK f n i = 1) && nmI f k (tP f n i) (tN f n i)) = false := hm
      rw [hm']; exact y0' (ha hm)
    · have hm' : (decide (tK f n i = 1) && nmI f k (tP f n i) (tN f n i)) = true := hm
      rw [hm']; exact y1' (hb hm)
  refine cn_X3_tellLine isH12 ?_
  rw [hT.1]
  by_cases c4 : tK f n i = 4
  · refine rr_t (by rw [c4]; rfl) (bad 1 (by omega) (by omega) ?_)
    unfold sLn; rw [if_pos c4]
  refine rr_f (lit_ne (b := 4) (by omega) (by omega) c4) ?_
  refine nm 0 (by omega) (fun z => tu 0 (by omega) (by unfold sLn; rw [if_neg c4, if_pos z])) (fun z0 => ?_)
  refine nm 1 (by omega) (fun z => tu 1 (by omega) (by unfold sLn; rw [if_neg c4, if_neg (by rw [z0]; decide), if_pos z])) (fun z1 => ?_)
  refine nm 2 (by omega) (fun z => tu 2 (by omega) (by unfold sLn; rw [if_neg c4, if_neg (by rw [z0]; decide), if_neg (by rw [z1]; decide), if_pos z])) (fun z2 => ?_)
  refine nm 3 (by omega) (fun z => tu 3 (by omega) (by unfold sLn; rw [if_neg c4, if_neg (by rw [z0]; decide), if_neg (by rw [z1]; decide), if_neg (by rw [z2]; decide), if_pos z])) (fun z3 => ?_)
  refine nm 4 (by omega) (fun z => ?_) (fun z4 => ?_)
  · have es : sLn wX f n i H = if nP H < 4 then rPl f n (tN f n i) H else .inl (5, tP f n i) := by unfold sLn; rw [if_neg c4, if_neg (by rw [z0]; decide), if_neg (by rw [z1]; decide), if_neg (by rw [z2]; decide), if_neg (by rw [z3]; decide), if_pos z]
    by_cases c : nP H < 4
    · rw [if_pos c] at es
      exact X_tellPlayer hS hX c (fun d' s o => h d' (by rw [es]; exact PL_Pl s o))
    · rw [if_neg c] at es
      refine cn_X3_tellPlayer isH12 (br_f ?_ (bad 5 (by omega) (by omega) es))
      rw [hX.np]
      have := ok.2.1
      exact fun z => absurd ((nI_ltI (b := 4) (by omega) (by omega)).mp z) c
  refine nm 5 (by omega) (fun z => ?_) (fun z5 => ?_)
  · have es : sLn wX f n i H = if nB H < 6 then rBd f n (tN f n i) H else .inl (5, tP f n i) := by unfold sLn; rw [if_neg c4, if_neg (by rw [z0]; decide), if_neg (by rw [z1]; decide), if_neg (by rw [z2]; decide), if_neg (by rw [z3]; decide), if_neg (by rw [z4]; decide), if_pos z]
    by_cases c : nB H < 6
    · rw [if_pos c] at es
      exact X_tellBound hS hX c (fun d' s o => h d' (by rw [es]; exact PL_Bd s o))
    · rw [if_neg c] at es
      refine cn_X3_tellBound isH12 (br_f ?_ (bad 5 (by omega) (by omega) es))
      rw [hX.nb]
      have := ok.2.2.1
      exact fun z => absurd ((nI_ltI (b := 6) (by omega) (by omega)).mp z) c
  · refine bad 2 (by omega) (by omega) ?_
    unfold sLn; rw [if_neg c4, if_neg (by rw [z0]; decide), if_neg (by rw [z1]; decide), if_neg (by rw [z2]; decide), if_neg (by rw [z3]; decide), if_neg (by rw [z4]; decide), if_neg (by rw [z5]; decide)]
/-- all tunes that are named are there -/
def allI (H : HH) : Bool := (List.range (nP H)).all (fun p => decide (H 8 p < nT H)) && (List.range (nB H)).all (fun q => decide (H 9 q < nT H))
theorem allI_t {H : HH} (h1 : ∀ p, p < nP H → H 8 p < nT H) (h2 : ∀ q, q < nB H → H 9 q < nT H) : allI H = true := by
  unfold allI
  rw [Bool.and_eq_true, List.all_eq_true, List.all_eq_true]
  exact ⟨fun p hp => decide_eq_true (h1 p (List.mem_range.mp hp)), fun p hp => decide_eq_true (h2 p (List.mem_range.mp hp))⟩
theorem allI_r {H : HH} (h : allI H = true) : (∀ p, p < nP H → H 8 p < nT H) ∧ ∀ q, q < nB H → H 9 q < nT H := by
  unfold allI at h
  rw [Bool.and_eq_true, List.all_eq_true, List.all_eq_true] at h
  exact ⟨fun p hp => of_decide_eq_true (h.1 p (List.mem_range.mpr hp)), fun p hp => of_decide_eq_true (h.2 p (List.mem_range.mpr hp))⟩
theorem allI_f {H : HH} (h : (∃ p, p < nP H ∧ ¬ H 8 p < nT H) ∨ ∃ q, q < nB H ∧ ¬ H 9 q < nT H) : allI H = false := by
  rw [Bool.eq_false_iff]
  intro z
  obtain ⟨h1, h2⟩ := allI_r z
  rcases h with ⟨p, a, b⟩ | ⟨p, a, b⟩
  · exact b (h1 p a)
  · exact b (h2 p a)
theorem X_hasT {q : Int32 → DD → Prop} {d : DD} {H : HH} {v : Nat} (hX : XH 12 d H) (h4 : nT H ≤ 4) (hv : v < 2 ^ 31) (h : q (b2 (decide (v < nT H))) d) : Cn SX MX0_hasTune [.ref 12, .int (nI v)] d (rI q) := by
  refine cn_X0_hasTune isH12 ?_
  rw [hX.nt]
  refine X_wil (by omega) (fun j hj e => ⟨nb_1, ?_⟩) (fun z => ⟨nb_0, ?_⟩)
  · have := nI_inj hv (by omega) e
    subst this
    rw [decide_eq_true hj] at h; exact h
  · rw [decide_eq_false (fun y => z v y rfl)] at h; exact h
theorem X_allThere {q : Int32 → DD → Prop} {d : DD} {H : HH} (hX : XH 12 d H) (ok : OKw H) (h : q (b2 (allI H)) d) : Cn SX MX0_allTunesAreThere [.ref 12] d (rI q) := by
  obtain ⟨o1, o2, o3, o4, o5, o6⟩ := ok
  refine cn_X0_allTunesAreThere isH12 ?_
  -- the prisoners
  have k33 : (∀ p, p < nP H → H 8 p < nT H) → ∀ r k, r + k = nB H → (∀ y, y < k → H 9 y < nT H) → Ev SX MX0_allTunesAreThere 33 [.ref 12, .int (nI k)] [] d (rI q) := by
    intro hp r
    induction r with
    | zero =>
      intro k hk ha
      refine bk_X0_allTunesAreThere_33 isH12 (br_t ?_ ?_)
      · rw [hX.nb]; exact nI_le (by omega) (by omega)
      · rw [allI_t hp (fun y hy => ha y (by omega))] at h; exact h
    | succ r ih =>
      intro k hk ha
      have hkb : k < nB H := by omega
      have h9 := o6 k hkb
      refine bk_X0_allTunesAreThere_33 isH12 (br_f ?_ ⟨vp_in_nI (by omega) (by omega), ?_⟩)
      · rw [hX.nb]; exact fun z => absurd ((nI_leI (by omega) (by omega)).mp z) (by omega)
      rw [nI_clamp (by omega), hX.bond hkb, nI_1]
      refine X_hasT hX o1 (by omega) ?_
      by_cases c : H 9 k < nT H
      · rw [decide_eq_true c]
        exact y1 (ih (k + 1) (by omega) (fun y hy => by
          by_cases cy : y = k
          · rw [cy]; exact c
          · exact ha y (by omega)))
      · rw [decide_eq_false c]
        rw [allI_f (Or.inr ⟨k, hkb, c⟩)] at h
        exact y0 h
  rw [li_0]
  suffices hs : ∀ r k, r + k = nP H → (∀ y, y < k → H 8 y < nT H) → Ev SX MX0_allTunesAreThere 2 [.ref 12, .int (nI k)] [] d (rI q) from hs _ 0 (Nat.add_zero _) (fun y hy => absurd hy (Nat.not_lt_zero y))
  intro r
  induction r with
  | zero =>
    intro k hk ha
    refine bk_X0_allTunesAreThere_2 isH12 (br_t ?_ (k33 (fun y hy => ha y (by omega)) _ 0 (Nat.add_zero _) (fun y hy => absurd hy (Nat.not_lt_zero y))))
    rw [hX.np]; exact nI_le (by omega) (by omega)
  | succ r ih =>
    intro k hk ha
    have hkb : k < nP H := by omega
    have h9 := (o5 k hkb).2.2.2.2
    refine bk_X0_allTunesAreThere_2 isH12 (br_f ?_ ⟨vp_in_nI (by omega) (by omega), ?_⟩)
    · rw [hX.np]; exact fun z => absurd ((nI_leI (by omega) (by omega)).mp z) (by omega)
    rw [nI_clamp (by omega), hX.at hkb, nI_1]
    refine X_hasT hX o1 (by omega) ?_
    by_cases c : H 8 k < nT H
    · rw [decide_eq_true c]
      exact y1 (ih (k + 1) (by omega) (fun y hy => by
        by_cases cy : y = k
        · rw [cy]; exact c
        · exact ha y (by omega)))
    · rw [decide_eq_false c]
      rw [allI_f (Or.inl ⟨k, hkb, c⟩)] at h
      exact y0 h
/-- all lines: a FAULT, or the house, how many, the place of the end -/
def sAll (w : Nat → Nat) (f : Nat → Nat) (n : Nat) : Nat → Nat → HH → Nat → Sum (Nat × Nat) (HH × Nat)
  | 0, _, H, l => .inr (H, l)
  | r + 1, i, H, l => if tK f n i = 0 then .inr (H, l) else match sLn w f n i H with
    | .inl e => .inl e
    | .inr z => sAll w f n r z.2 z.1 (l + 1)
def sTot (w : Nat → Nat) (f : Nat → Nat) (n : Nat) (s : Sum (Nat × Nat) (HH × Nat)) : Sum (Nat × Nat) (HH × Nat) := match s with
  | .inl e => .inl e
  | .inr z => if allI z.1 = true then .inr z else .inl (6, n)
/-- the class's end of all -/
def PAl (f : Nat → Nat) (n : Nat) (x0 : DD) (R : Sum (Nat × Nat) (HH × Nat)) (r : Int32) (d : DD) : Prop := match R with
  | .inl e => r = (-10) - nI e.2 ∧ XB f n x0 d ∧ FO n (some e) d
  | .inr z => r = nI z.2 ∧ z.2 ≤ 160 ∧ XB f n x0 d ∧ FO n none d ∧ XH 12 d z.1 ∧ OKw z.1
theorem X_all_56b {q : Int32 → DD → Prop} {x0 : DD} {f : Nat → Nat} {n : Nat} {d : DD} {e : Nat × Nat} {l2 : Int32} (hA : XA f n x0 (.inl e) d) (h : ∀ r d', PAl f n x0 (.inl e) r d' → q r d') : Ev SX MX3_tellAll 56 [.ref 36, .ref 12, .int l2] [] d (rI q) := by
  obtain ⟨hB, hF, -⟩ := hA
  obtain ⟨k1, k2, k3⟩ := id hF
  have nz : ¬ d 36 2 = 0 := by rw [k2]; exact lit_ne (b := 0) (by have := k1.2.1; omega) (by omega) (by have := k1.1; omega)
  refine bk_X3_tellAll_56 isH12 (rr_f nz (rr_f nz (h _ d ⟨?_, hB, hF⟩)))
  rw [k3]
theorem X_all_20 {q : Int32 → DD → Prop} {x0 : DD} {f : Nat → Nat} {n : Nat} : ∀ r i H l d, n - i < r → l ≤ i → XA f n x0 (.inr i) d → XH 12 d H → OKw H → (∀ r' d', PAl f n x0 (sTot wX f n (sAll wX f n r i H l)) r' d' → q r' d') → Ev SX MX3_tellAll 20 [.ref 36, .ref 12, .int (nI l)] [] d (rI q) := by
  intro r
  induction r with
  | zero => intro i H l d h1; omega
  | succ r ih =>
    intro i H l d hr hl hA hX ok h
    obtain ⟨hB, hF, i', hi, hT, hj⟩ := id hA
    have hii := hj i rfl
    subst hii
    have hn := hB.1
    have hK := tK_le (f := f) (n := n) (i := i)
    have e2 : d 36 2 = 0 := hF
    refine bk_X3_tellAll_20 isH12 (rr_t e2 ?_)
    rw [hT.1]
    by_cases c0 : tK f n i = 0
    · have es : sAll wX f n (r + 1) i H l = .inr (H, l) := by show (if tK f n i = 0 then _ else _) = _; rw [if_pos c0]
      rw [es] at h
      refine br_t (by rw [c0]; rfl) (bk_X3_tellAll_56 isH12 (rr_t e2 (X_allThere hX ok ?_)))
      cases ha : allI H
      · have et : sTot wX f n (.inr (H, l)) = .inl (6, n) := by show (if allI H = true then _ else _) = _; rw [if_neg (by rw [ha]; decide)]
        rw [et] at h
        refine y0 ?_
        rw [hB.2.2.1]
        refine X_fail (c := 6) hF hn (by omega) (by omega) (Nat.le_refl n) (fun d' g1 g2 g3 => ?_)
        have g1' : FO n (some (6, n)) d' := g1
        have nz : ¬ d' 36 2 = 0 := by rw [g1'.2.1]; exact lit_ne (b := 0) (by omega) (by omega) (by omega)
        refine rr_f nz (h _ d' ⟨by rw [g1'.2.2], ⟨hB.1, hB.2.1, by rw [g3 1 (by omega) (by omega)]; exact hB.2.2.1, fun k hk => by rw [g2 37 (by omega)]; exact hB.2.2.2.1 k hk, fun a ha hb => by rw [g2 a ha]; exact hB.2.2.2.2 a ha hb⟩, g1'⟩)
      · have et : sTot wX f n (.inr (H, l)) = .inr (H, l) := by show (if allI H = true then _ else _) = _; rw [if_pos ha]
        rw [et] at h
        exact y1 (rr_t e2 (h _ d ⟨rfl, (by omega), hB, hF, hX, ok⟩))
    · have es : sAll wX f n (r + 1) i H l = match sLn wX f n i H with
          | .inl e => .inl e
          | .inr z => sAll wX f n r z.2 z.1 (l + 1) := by show (if tK f n i = 0 then _ else _) = _; rw [if_neg c0]
      rw [es] at h
      have hpn : tP f n i ≠ n := fun z => c0 ((tK0 hi).mpr z)
      have := tP_le (f := f) hi
      have := tP_ge (f := f) (n := n) (i := i)
      refine br_f (lit_ne (b := 0) (by omega) (by omega) c0) (br_f (fun z => absurd ((nI_leI (a := 160) (by omega) (by omega)).mp z) (by omega)) (X_tellLine hA hX ok (fun d1 hP => ?_)))
      rw [nI_1]
      rcases hs : sLn wX f n i H with e | ⟨H', i'⟩
      · rw [hs] at hP h
        have hP : XS f n x0 (.inl e) d1 := hP
        refine X_adv hP (fun d2 hA2 _ => ?_)
        obtain ⟨-, hF2, -⟩ := id hA2
        obtain ⟨k1, k2, k3⟩ := hF2
        have nz : ¬ d2 36 2 = 0 := by rw [k2]; exact lit_ne (b := 0) (by have := k1.2.1; omega) (by omega) (by have := k1.1; omega)
        exact bk_X3_tellAll_20 isH12 (rr_f nz (X_all_56b hA2 h))
      · rw [hs] at hP h
        obtain ⟨hS1, hX1⟩ : XS f n x0 (.inr i') d1 ∧ XH 12 d1 H' := hP
        obtain ⟨g1, g2, g3⟩ := sLn_r hi ok hs
        refine X_adv hS1 (fun d2 hA2 f2 => ih i' H' (l + 1) d2 (by omega) (by omega) hA2 (hX1.kept (fun a b1 b2 => f2 a (by omega))) g3 h)
def Hnil : HH := fun _ _ => 0
theorem OKw_nil : OKw Hnil := ⟨Nat.zero_le _, Nat.zero_le _, Nat.zero_le _, fun t h => absurd h (Nat.not_lt_zero t), fun t h => absurd h (Nat.not_lt_zero t), fun t h => absurd h (Nat.not_lt_zero t)⟩
/-- all of it, purely -/
def sTxt (w : Nat → Nat) (f : Nat → Nat) (n : Nat) : Sum (Nat × Nat) (HH × Nat) := sTot w f n (sAll w f n 161 0 Hnil 0)
theorem X_tellAll {q : Int32 → DD → Prop} {x0 : DD} {f : Nat → Nat} {n : Nat} (hB : XB f n x0 x0) (h : ∀ r d', PAl f n x0 (sTxt wX f n) r d' → q r d') : Cn SX MX3_tellAll [.ref 36, .ref 12] x0 (rI q) := by
  have hn := hB.1
  refine cn_X3_tellAll isH12 (cn_X0_clear isH12 (nm_e (nm_e (nm_e (nm_e (nm_e ?_))))))
  generalize ed : up (up (up (up (up x0 12 0 0) 12 1 0) 12 2 0) 36 2 0) 36 6 0 = d
  have c12 : ∀ j, j < 3 → d 12 j = 0 := by
    intro j hj
    rw [← ed]
    rcases (show j = 0 ∨ j = 1 ∨ j = 2 by omega) with rfl | rfl | rfl
    · rw [up_n (by omega), up_n (by omega), up_n (by omega), up_n (by omega), up_s]
    · rw [up_n (by omega), up_n (by omega), up_n (by omega), up_s]
    · rw [up_n (by omega), up_n (by omega), up_s]
  have hB2 : XB f n x0 d := by
    rw [← ed]
    exact ((hB.put (d' := up (up (up x0 12 0 0) 12 1 0) 12 2 0) (fun a ha => by rw [up_ne a (by omega), up_ne a (by omega), up_ne a (by omega)])).up36 (by omega)).up36 (by omega)
  have hS : XS f n x0 (.inr 0) d := ⟨hB2, by show d 36 2 = nI 0; rw [← ed, up_n (by omega), up_s]; rfl, 0, Nat.zero_le _, by rw [← ed, up_s]; rfl, fun j e => by cases e; rfl⟩
  have hX : XH 12 d Hnil := ⟨c12 0 (by omega), c12 1 (by omega), c12 2 (by omega), fun t h => absurd h (Nat.not_lt_zero t), fun t h => absurd h (Nat.not_lt_zero t), fun t h => absurd h (Nat.not_lt_zero t)⟩
  refine X_adv hS (fun d1 hA f1 => X_all_20 161 0 Hnil 0 d1 (by omega) (by omega) hA (hX.kept (fun a b1 b2 => f1 a (by omega))) OKw_nil h)
end
section
/-! ===== the reference reads tokens ===== -/
def frJ (j : Nat) : Prop := j = 5 ∨ j = 6 ∨ j = 7 ∨ j = 8 ∨ (12 ≤ j ∧ j ≤ 17)
/-- the tape, and what isn't the reading's -/
def YB (f : Nat → Nat) (n : Nat) (m0 d : DD) : Prop := n ≤ 160 ∧ (∀ i, i < n → f i ≤ 127) ∧ d 0 10 = nI n ∧ (∀ i, i < n → d 3 i = nI (f i)) ∧ RC d ∧ (∀ a, a ≠ 0 → a ≠ 2 → d a = m0 a) ∧ ∀ j, ¬ frJ j → d 0 j = m0 0 j
/-- only the tokens' numbers are changed -/
def YTf (d d' : DD) : Prop := (∀ a, a ≠ 0 → d' a = d a) ∧ ∀ j, ¬ (12 ≤ j ∧ j ≤ 17) → d' 0 j = d 0 j
theorem YTf.rf {d : DD} : YTf d d := ⟨fun _ _ => rfl, fun _ _ => rfl⟩
theorem YTf.tr {a b c : DD} (h : YTf a b) (h2 : YTf b c) : YTf a c := ⟨fun x hx => (h2.1 x hx).trans (h.1 x hx), fun j hj => (h2.2 j hj).trans (h.2 j hj)⟩
theorem YTf.up {d : DD} {j : Nat} {v : Int32} (h1 : 12 ≤ j) (h2 : j ≤ 17) : YTf d (up d 0 j v) := ⟨fun a ha => up_ne a (by omega), fun i hi => up_n (by omega)⟩
theorem YB.tf {f : Nat → Nat} {n : Nat} {m0 d d' : DD} (h : YB f n m0 d) (t : YTf d d') : YB f n m0 d' := by
  obtain ⟨h1, h2, h3, h4, h5, h6, h7⟩ := h
  refine ⟨h1, h2, by rw [t.2 10 (by omega)]; exact h3, fun i hi => by rw [t.1 3 (by omega)]; exact h4 i hi, h5.k (t.1 4 (by omega)) (t.1 5 (by omega)), fun a ha hb => by rw [t.1 a ha]; exact h6 a ha hb, fun j hj => ?_⟩
  rw [t.2 j (fun z => hj (Or.inr (Or.inr (Or.inr (Or.inr z)))))]; exact h7 j hj
/-- a put onto the page that is read, or of its counts -/
theorem YB.put {f : Nat → Nat} {n : Nat} {m0 d d' : DD} (h : YB f n m0 d) (ha : ∀ a, a ≠ 0 → a ≠ 2 → d' a = d a) (hj : ∀ j, ¬ frJ j → d' 0 j = d 0 j) : YB f n m0 d' := by
  obtain ⟨h1, h2, h3, h4, h5, h6, h7⟩ := h
  exact ⟨h1, h2, by rw [hj 10 (by unfold frJ; omega)]; exact h3, fun i hi => by rw [ha 3 (by omega) (by omega)]; exact h4 i hi, h5.k (ha 4 (by omega) (by omega)) (ha 5 (by omega) (by omega)), fun a u v => by rw [ha a u v]; exact h6 a u v, fun j u => by rw [hj j u]; exact h7 j u⟩
theorem M_byte {q : Int32 → DD → Prop} {m0 : DD} {f : Nat → Nat} {n k : Nat} {d : DD} (hB : YB f n m0 d) (hk : k < 2 ^ 31) (h1 : k < n → q (nI (f k)) d) (h0 : ¬ k < n → q (-4) d) : Cn SM MX5_byteAt [.ref 0, .int (nI k)] d (rI q) := by
  obtain ⟨b1, b2, b3, b4, b5⟩ := hB
  refine cn_X5_byteAt ?_
  rw [b3]
  by_cases c : k < n
  · refine br_f (fun z => absurd ((nI_leI (by omega) hk).mp z) (by omega)) ⟨vp_in_nI (show k < 160 by omega) (by omega), ?_⟩
    rw [nI_clamp hk, b4 k c]; exact h1 c
  · exact br_t ((nI_leI (by omega) hk).mpr (by omega)) (h0 c)
theorem M_wlh {q : Int32 → DD → Prop} {d : DD} {w : Nat} (lo hi : Nat) (hw : w < 2 ^ 31) (hl : lo < 2 ^ 31) (hh : hi < 2 ^ 31) (h1 : lo ≤ w ∧ w ≤ hi → q 1 d) (h0 : ¬ (lo ≤ w ∧ w ≤ hi) → q 0 d) : Cn SM MX5_in [.long (nI w).toInt64, .long (lN lo), .long (lN hi)] d (rI q) := by
  refine M_inL (fun a b => h1 ?_) (fun z => h0 (fun y => z ?_))
  · rw [Int32.toInt_toInt64, nI_toInt hw, lN_toInt hl] at a
    rw [Int32.toInt_toInt64, nI_toInt hw, lN_toInt hh] at b
    exact ⟨(by omega), (by omega)⟩
  · rw [Int32.toInt_toInt64, nI_toInt hw, lN_toInt hl, lN_toInt hh]
    exact ⟨(by omega), (by omega)⟩
theorem M_wm4 {q : Int32 → DD → Prop} {d : DD} {lo hi : Nat} (hl : lo < 2 ^ 31) (h0 : q 0 d) : Cn SM MX5_in [.long ((-4 : Int32)).toInt64, .long (lN lo), .long (lN hi)] d (rI q) := by
  refine M_inL (fun a b => ?_) (fun _ => h0)
  rw [show ((-4 : Int32)).toInt64.toInt = -4 from by decide, lN_toInt hl] at a
  omega
theorem M_fails {q : DD → Prop} {d : DD} {c : Nat} (h1 : d 0 12 = 0 → q (up (up d 0 12 (nI c)) 0 13 (d 0 15))) (h0 : ¬ d 0 12 = 0 → q d) : Cn SM MX5_fails [.ref 0, .int (nI c)] d (rV q) := by
  refine cn_X5_fails ⟨h0, fun e => nm_e (nm_e ?_)⟩
  rw [up_n (by omega)]
  exact h1 e
/-- what stands when the token behind the place i is the current one -/
def YT (f : Nat → Nat) (n i : Nat) (d : DD) : Prop := if tK f n i = 4 then d 0 12 = nI 1 ∧ d 0 13 = nI (tP f n i) else d 0 12 = nI 0 ∧ d 0 14 = nI (tN f n i) ∧ d 0 15 = nI (tP f n i) ∧ d 0 16 = nI (tK f n i) ∧ (tK f n i = 2 → d 0 17 = nI (tV f n i))
theorem YT_4 {f : Nat → Nat} {n i : Nat} {d : DD} (h : tK f n i = 4) (h1 : d 0 12 = nI 1) (h2 : d 0 13 = nI (tP f n i)) : YT f n i d := by unfold YT; rw [if_pos h]; exact ⟨h1, h2⟩
theorem YT_n {f : Nat → Nat} {n i : Nat} {d : DD} (h : tK f n i ≠ 4) (h1 : d 0 12 = nI 0) (h2 : d 0 14 = nI (tN f n i)) (h3 : d 0 15 = nI (tP f n i)) (h4 : d 0 16 = nI (tK f n i)) (h5 : tK f n i = 2 → d 0 17 = nI (tV f n i)) : YT f n i d := by unfold YT; rw [if_neg h]; exact ⟨h1, h2, h3, h4, h5⟩
theorem lcn (k : Nat) : ((k : Nat) : Nat) = k := rfl
theorem M_step {q : DD → Prop} {m0 : DD} {f : Nat → Nat} {n i : Nat} {d : DD} (hi : i ≤ n) (hB : YB f n m0 d) (h12 : d 0 12 = nI 0) (h14 : d 0 14 = nI i) (h : ∀ d', YTf d d' → YT f n i d' → q d') : Cn SM MX5_step [.ref 0] d (rV q) := by
  obtain ⟨b1, b2, b3, b4, b5, b6, b7⟩ := id hB
  have hp := tP_le (f := f) hi
  have hpi := tP_ge (f := f) (n := n) (i := i)
  have l97 : (97 : Int64) = lN 97 := rfl
  have l122 : (122 : Int64) = lN 122 := rfl
  have l48 : (48 : Int64) = lN 48 := rfl
  have l57 : (57 : Int64) = lN 57 := rfl
  -- letters
  have k84 : ∀ r j (l1 : Int32) d1, n - j = r → tP f n i < n → isLe f (tP f n i) = true → j ≤ n → sc (isLe f) n j = sc (isLe f) n (tP f n i) → YTf d d1 → d1 0 12 = nI 0 → d1 0 14 = nI j → d1 0 15 = nI (tP f n i) → Ev SM MX5_step 84 [.ref 0, .int l1] [] d1 (rV q) := by
    intro r
    induction r with
    | zero =>
      intro j l1 d1 hr hlt hl hj hs t1 e12 e14 e15
      have eK : tK f n i = 1 := by unfold tK kAt; rw [if_pos hlt, if_pos hl]
      have eN : tN f n i = sc (isLe f) n (tP f n i) := by unfold tN nAt; rw [if_pos hlt, if_pos hl]
      refine bk_X5_step_84 ?_
      rw [e14]
      refine M_byte (hB.tf t1) (by omega) (fun c => absurd c (by omega)) (fun _ => ?_)
      rw [l97, l122]
      refine M_wm4 (by omega) (y0' (nm_e (h _ (t1.tr (YTf.up (by omega) (by omega))) (YT_n (by omega) ?_ ?_ ?_ ?_ (fun z => absurd z (by omega))))))
      · rw [up_n (by omega)]; exact e12
      · rw [up_n (by omega), e14, eN, ← hs, sc_stop (fun z => by omega)]
      · rw [up_n (by omega)]; exact e15
      · rw [up_s, eK]; rfl
    | succ r ih =>
      intro j l1 d1 hr hlt hl hj hs t1 e12 e14 e15
      have eK : tK f n i = 1 := by unfold tK kAt; rw [if_pos hlt, if_pos hl]
      have eN : tN f n i = sc (isLe f) n (tP f n i) := by unfold tN nAt; rw [if_pos hlt, if_pos hl]
      have hjn : j < n := by omega
      have hf := b2 j hjn
      refine bk_X5_step_84 ?_
      rw [e14]
      refine M_byte (hB.tf t1) (by omega) (fun c => ?_) (fun c => absurd hjn c)
      rw [l97, l122]
      refine M_wlh 97 122 (by omega) (by omega) (by omega) (fun z => y1' (nm_e ?_)) (fun z => y0' (nm_e (h _ (t1.tr (YTf.up (by omega) (by omega))) (YT_n (by omega) ?_ ?_ ?_ ?_ (fun z => absurd z (by omega))))))
      · rw [e14, nI_1]
        exact ih (j + 1) l1 _ (by omega) hlt hl (by omega) (by rw [← hs, sc_go hjn (decide_eq_true z)]) (t1.tr (YTf.up (by omega) (by omega))) (by rw [up_n (by omega)]; exact e12) up_s (by rw [up_n (by omega)]; exact e15)
      · rw [up_n (by omega)]; exact e12
      · rw [up_n (by omega), e14, eN, ← hs, sc_stop (fun y => z (of_decide_eq_true y.2))]
      · rw [up_n (by omega)]; exact e15
      · rw [up_s, eK]; rfl
  -- figures
  have k140 : ∀ r j (l1 : Int32) d1, n - j = r → tP f n i < n → isLe f (tP f n i) ≠ true → isDi f (tP f n i) = true → tP f n i ≤ j → j ≤ n → sc (isDi f) n j = sc (isDi f) n (tP f n i) → YTf d d1 → d1 0 12 = nI 0 → d1 0 14 = nI j → d1 0 15 = nI (tP f n i) → d1 0 17 = nI (vlN f (tP f n i) (min 2 (j - tP f n i))) → Ev SM MX5_step 140 [.ref 0, .int l1] [] d1 (rV q) := by
    intro r
    have fin : ∀ j (l1 : Int32) d1, tP f n i < n → isLe f (tP f n i) ≠ true → isDi f (tP f n i) = true → tP f n i ≤ j → j ≤ n → sc (isDi f) n (tP f n i) = j → YTf d d1 → d1 0 12 = nI 0 → d1 0 14 = nI j → d1 0 15 = nI (tP f n i) → d1 0 17 = nI (vlN f (tP f n i) (min 2 (j - tP f n i))) → (∀ d6 : DD, d6 = up d1 0 16 2 → (((d6 0 14) - (d6 0 15)) ≤ 2 → q d6) ∧ (¬ ((d6 0 14) - (d6 0 15)) ≤ 2 → Cn SM MX5_fails [.ref 0, .int 1] d6 (rV fun d8 => q d8))) := by
      intro j l1 d1 hlt hl hd hpj hj hs t1 e12 e14 e15 e17
      have eN : tN f n i = j := by unfold tN nAt; rw [if_pos hlt, if_neg hl, if_pos hd, hs]
      refine nm_e ?_
      rw [up_n (by omega), up_n (by omega), e14, e15, pk_sub hpj]
      by_cases c2 : j - tP f n i ≤ 2
      · have eK : tK f n i = 2 := by unfold tK kAt; rw [if_pos hlt, if_neg hl, if_pos hd, hs, if_pos c2]
        refine br_t ((nI_leI (b := 2) (by omega) (by omega)).mpr c2) (h _ (t1.tr (YTf.up (by omega) (by omega))) (YT_n (by omega) ?_ ?_ ?_ ?_ (fun _ => ?_)))
        · rw [up_n (by omega)]; exact e12
        · rw [up_n (by omega), e14, eN]
        · rw [up_n (by omega)]; exact e15
        · rw [up_s, eK]; rfl
        · rw [up_n (by omega), e17, show min 2 (j - tP f n i) = j - tP f n i by omega]; unfold tV; rw [eN]
      · have eK : tK f n i = 4 := by unfold tK kAt; rw [if_pos hlt, if_neg hl, if_pos hd, hs, if_neg c2]
        refine br_f (fun z => absurd ((nI_leI (b := 2) (by omega) (by omega)).mp z) c2) (M_fails (c := 1) (fun _ => ?_) (fun z => absurd (by rw [up_n (by omega)]; exact e12) z))
        refine h _ (t1.tr ((YTf.up (by omega) (by omega)).tr ((YTf.up (by omega) (by omega)).tr (YTf.up (by omega) (by omega))))) (YT_4 eK ?_ ?_)
        · rw [up_n (by omega), up_s]
        · rw [up_s, up_n (by omega)]; exact e15
    induction r with
    | zero =>
      intro j l1 d1 hr hlt hl hd hpj hj hs t1 e12 e14 e15 e17
      refine bk_X5_step_140 ?_
      rw [e14]
      refine M_byte (hB.tf t1) (by omega) (fun c => absurd c (by omega)) (fun _ => ?_)
      rw [l48, l57]
      exact M_wm4 (by omega) (y0' (fin j l1 d1 hlt hl hd hpj hj (by rw [← hs, sc_stop (fun z => by omega)]) t1 e12 e14 e15 e17))
    | succ r ih =>
      intro j l1 d1 hr hlt hl hd hpj hj hs t1 e12 e14 e15 e17
      have hjn : j < n := by omega
      have hf := b2 j hjn
      refine bk_X5_step_140 ?_
      rw [e14]
      refine M_byte (hB.tf t1) (by omega) (fun c => ?_) (fun c => absurd hjn c)
      rw [l48, l57]
      refine M_wlh 48 57 (by omega) (by omega) (by omega) (fun z => y1' ?_) (fun z => y0' (fin j l1 d1 hlt hl hd hpj hj (by rw [← hs, sc_stop (fun y => z (of_decide_eq_true y.2))]) t1 e12 e14 e15 e17))
      have nx := fun d2 => ih (j + 1) l1 d2 (by omega) hlt hl hd (by omega) (by omega) (by rw [← hs, sc_go hjn (decide_eq_true z)])
      rw [e14, e15, pk_sub hpj, e17]
      by_cases c2 : 2 ≤ j - tP f n i
      · refine br_t ((nI_leI (a := 2) (by omega) (by omega)).mpr c2) (nm_e (nm_e ?_))
        rw [up_n (by omega), e14, nI_1]
        refine nx _ (t1.tr ((YTf.up (by omega) (by omega)).tr (YTf.up (by omega) (by omega)))) ?_ up_s ?_ ?_
        · rw [up_n (by omega), up_n (by omega)]; exact e12
        · rw [up_n (by omega), up_n (by omega)]; exact e15
        · rw [up_n (by omega), up_s, show min 2 (j + 1 - tP f n i) = min 2 (j - tP f n i) by omega]
      · refine br_f (fun y => absurd ((nI_leI (a := 2) (by omega) (by omega)).mp y) c2) (M_byte (hB.tf t1) (by omega) (fun c => nm_e (nm_e ?_)) (fun c => absurd hjn c))
        have hm : min 2 (j - tP f n i) = j - tP f n i := by omega
        have hvl := vlN_lt (f := f) (p := tP f n i) (j - tP f n i) (fun y h1 h2 => of_decide_eq_true (p := 48 ≤ f y ∧ f y ≤ 57) (sc_in (P := isDi f) (n := n) h1 (by rw [← hs]; exact Nat.lt_of_lt_of_le (show y < j by omega) sc_ge)))
        have h10 : 10 ^ (j - tP f n i) ≤ 10 ^ 1 := Nat.pow_le_pow_right (by decide) (by omega)
        rw [up_n (by omega), e14, nI_1, hm, li_10, pk_mul, nI_add, show (48 : Int32) = nI 48 from rfl, pk_sub (by omega)]
        refine nx _ (t1.tr ((YTf.up (by omega) (by omega)).tr (YTf.up (by omega) (by omega)))) ?_ up_s ?_ ?_
        · rw [up_n (by omega), up_n (by omega)]; exact e12
        · rw [up_n (by omega), up_n (by omega)]; exact e15
        · rw [up_n (by omega), up_s, show min 2 (j + 1 - tP f n i) = (j - tP f n i) + 1 by omega]
          show _ = nI (vlN f (tP f n i) (j - tP f n i) * 10 + (f (tP f n i + (j - tP f n i)) - 48))
          rw [show tP f n i + (j - tP f n i) = j by omega]
          congr 1
          omega
  -- behind the blanks
  have k8e : ∀ d1, YTf d d1 → d1 0 12 = nI 0 → d1 0 14 = nI (tP f n i) → (∀ d4 : DD, d4 = up d1 0 15 (d1 0 14) → Cn SM MX5_byteAt [.ref 0, .int (d4 0 14)] d4 (rI fun r6 d5 => (∀ d7 : DD, d7 = (up d5 0 17 0) → ((¬ r6 = (-4) → (Cn SM MX5_in [.long r6.toInt64, .long 97, .long 122] d7 (rI fun r10 d9 => ((r10 = 0 → (Cn SM MX5_in [.long r6.toInt64, .long 48, .long 57] d9 (rI fun r13 d12 => ((r13 = 0 → (∀ d15 : DD, d15 = (up d12 0 16 3) → (∀ d16 : DD, d16 = (up d15 0 14 ((d15 0 14) + 1)) → ((r6 = 59 → q d16) ∧ (¬ r6 = 59 → (Cn SM MX5_fails [.ref 0, .int 1] d16 (rV fun d18 => q d18))))))) ∧ (¬ r13 = 0 → Ev SM MX5_step 140 [.ref 0, .int r6] [] d12 (rV q)))))) ∧ (¬ r10 = 0 → Ev SM MX5_step 84 [.ref 0, .int r6] [] d9 (rV q)))))) ∧ (r6 = (-4) → (∀ d19 : DD, d19 = (up d7 0 16 0) → q d19)))))) := by
    intro d1 t1 e12 e14
    refine nm_e ?_
    rw [up_n (by omega), e14]
    have t2 : YTf d (up d1 0 15 (nI (tP f n i))) := t1.tr (YTf.up (by omega) (by omega))
    refine M_byte (hB.tf t2) (by omega) (fun c => nm_e ?_) (fun c => nm_e (rr_t rfl (nm_e ?_)))
    · have hf := b2 _ c
      have t3 : YTf d (up (up d1 0 15 (nI (tP f n i))) 0 17 0) := t2.tr (YTf.up (by omega) (by omega))
      have f12 : up (up d1 0 15 (nI (tP f n i))) 0 17 0 0 12 = nI 0 := by rw [up_n (by omega), up_n (by omega)]; exact e12
      have f14 : up (up d1 0 15 (nI (tP f n i))) 0 17 0 0 14 = nI (tP f n i) := by rw [up_n (by omega), up_n (by omega)]; exact e14
      have f15 : up (up d1 0 15 (nI (tP f n i))) 0 17 0 0 15 = nI (tP f n i) := by rw [up_n (by omega), up_s]
      have f17 : up (up d1 0 15 (nI (tP f n i))) 0 17 0 0 17 = nI 0 := by rw [up_s]; rfl
      generalize up (up d1 0 15 (nI (tP f n i))) 0 17 0 = d3 at t3 f12 f14 f15 f17 ⊢
      refine rr_f (ne_m4 (by omega)) ?_
      rw [l97, l122]
      by_cases cl : 97 ≤ f (tP f n i) ∧ f (tP f n i) ≤ 122
      · exact M_wlh 97 122 (by omega) (by omega) (by omega) (fun _ => y1' (k84 _ (tP f n i) _ d3 rfl c (decide_eq_true cl) hp rfl t3 f12 f14 f15)) (fun z => absurd cl z)
      · have cl' : isLe f (tP f n i) ≠ true := fun z => cl (of_decide_eq_true z)
        refine M_wlh 97 122 (by omega) (by omega) (by omega) (fun z => absurd z cl) (fun _ => y0' ?_)
        rw [l48, l57]
        by_cases cd : 48 ≤ f (tP f n i) ∧ f (tP f n i) ≤ 57
        · exact M_wlh 48 57 (by omega) (by omega) (by omega) (fun _ => y1' (k140 _ (tP f n i) _ d3 rfl c cl' (decide_eq_true cd) (Nat.le_refl _) hp rfl t3 f12 f14 f15 (by rw [f17, Nat.sub_self]; rfl))) (fun z => absurd cd z)
        · have cd' : ¬ isDi f (tP f n i) = true := fun z => cd (of_decide_eq_true z)
          have eN : tN f n i = tP f n i + 1 := by unfold tN nAt; rw [if_pos c, if_neg cl', if_neg cd']
          refine M_wlh 48 57 (by omega) (by omega) (by omega) (fun z => absurd z cd) (fun _ => y0' (nm_e (nm_e ?_)))
          rw [up_n (by omega), f14, nI_1]
          by_cases cs : f (tP f n i) = 59
          · have eK : tK f n i = 3 := by unfold tK kAt; rw [if_pos c, if_neg cl', if_neg cd', if_pos cs]
            refine br_t (by rw [cs]; rfl) (h _ (t3.tr ((YTf.up (by omega) (by omega)).tr (YTf.up (by omega) (by omega)))) (YT_n (by omega) ?_ ?_ ?_ ?_ (fun z => absurd z (by omega))))
            · rw [up_n (by omega), up_n (by omega)]; exact f12
            · rw [up_s, eN]
            · rw [up_n (by omega), up_n (by omega)]; exact f15
            · rw [up_n (by omega), up_s, eK]; rfl
          · have eK : tK f n i = 4 := by unfold tK kAt; rw [if_pos c, if_neg cl', if_neg cd', if_neg cs]
            refine br_f (lit_ne (b := 59) (by omega) (by omega) cs) (M_fails (c := 1) (fun _ => ?_) (fun z => absurd (by rw [up_n (by omega), up_n (by omega)]; exact f12) z))
            refine h _ (t3.tr ((YTf.up (by omega) (by omega)).tr ((YTf.up (by omega) (by omega)).tr ((YTf.up (by omega) (by omega)).tr (YTf.up (by omega) (by omega)))))) (YT_4 eK ?_ ?_)
            · rw [up_n (by omega), up_s]
            · rw [up_s, up_n (by omega), up_n (by omega)]; exact f15
    · have eN : tN f n i = tP f n i := by unfold tN nAt; rw [if_neg c]
      have eK : tK f n i = 0 := by unfold tK kAt; rw [if_neg c]
      refine h _ (t2.tr ((YTf.up (by omega) (by omega)).tr (YTf.up (by omega) (by omega)))) (YT_n (by omega) ?_ ?_ ?_ ?_ (fun z => absurd z (by omega)))
      · rw [up_n (by omega), up_n (by omega), up_n (by omega)]; exact e12
      · rw [up_n (by omega), up_n (by omega), up_n (by omega), eN]; exact e14
      · rw [up_n (by omega), up_n (by omega), up_s]
      · rw [up_s, eK]; rfl
  refine cn_X5_step (br_t (by rw [h12]; exact nI_le (a := 0) (b := 0) (by omega) (by omega)) ?_)
  suffices hs : ∀ r j d1, n - j = r → j ≤ n → sc (isBl f) n j = tP f n i → YTf d d1 → d1 0 12 = nI 0 → d1 0 14 = nI j → Ev SM MX5_step 8 [.ref 0, uJ] [] d1 (rV q) from hs _ i d rfl hi rfl YTf.rf h12 h14
  intro r
  induction r with
  | zero =>
    intro j d1 hr hj hsc t1 e12 e14
    refine bk_X5_step_8 ?_
    rw [e14]
    refine M_byte (hB.tf t1) (by omega) (fun c => absurd c (by omega)) (fun _ => rr_f (by decide) ?_)
    have ep : tP f n i = j := by rw [← hsc, sc_stop (fun z => by omega)]
    exact k8e d1 t1 e12 (by rw [ep]; exact e14)
  | succ r ih =>
    intro j d1 hr hj hsc t1 e12 e14
    have hjn : j < n := by omega
    have hf := b2 j hjn
    refine bk_X5_step_8 ?_
    rw [e14]
    refine M_byte (hB.tf t1) (by omega) (fun c => ?_) (fun c => absurd hjn c)
    by_cases c32 : f j = 32
    · refine rr_t (by rw [c32]; rfl) (nm_e ?_)
      rw [e14, nI_1]
      exact ih (j + 1) _ (by omega) (by omega) (by rw [← hsc, sc_go hjn (decide_eq_true c32)]) (t1.tr (YTf.up (by omega) (by omega))) (by rw [up_n (by omega)]; exact e12) up_s
    · refine rr_f (lit_ne (b := 32) (by omega) (by omega) c32) ?_
      have ep : tP f n i = j := by rw [← hsc, sc_stop (fun z => c32 (of_decide_eq_true z.2))]
      exact k8e d1 t1 e12 (by rw [ep]; exact e14)
end
section
/-! ===== the reference takes tokens ===== -/
def YE (n : Nat) (e : Nat × Nat) (d : DD) : Prop := okE n e ∧ d 0 12 = nI e.1 ∧ d 0 13 = nI e.2
def YS (f : Nat → Nat) (n : Nat) (m0 : DD) (σ : Sg) (d : DD) : Prop := YB f n m0 d ∧ match σ with
  | .inl e => YE n e d
  | .inr i => i ≤ n ∧ YT f n i d
def YP (f : Nat → Nat) (n : Nat) (m0 : DD) (σ : Sg) (d : DD) : Prop := YB f n m0 d ∧ match σ with
  | .inl e => YE n e d
  | .inr i => i ≤ n ∧ d 0 12 = nI 0 ∧ d 0 14 = nI i
theorem YE.nz {n : Nat} {e : Nat × Nat} {d : DD} (h : YE n e d) : ¬ d 0 12 = 0 := by
  rw [h.2.1]; exact lit_ne (b := 0) (by have := h.1.2.1; omega) (by omega) (by have := h.1.1; omega)
theorem YE.put {n : Nat} {e : Nat × Nat} {d d' : DD} (h : YE n e d) (hj : ∀ j, 12 ≤ j → j ≤ 17 → d' 0 j = d 0 j) : YE n e d' := ⟨h.1, (hj 12 (by omega) (by omega)).trans h.2.1, (hj 13 (by omega) (by omega)).trans h.2.2⟩
theorem YT.put {f : Nat → Nat} {n i : Nat} {d d' : DD} (h : YT f n i d) (hj : ∀ j, 12 ≤ j → j ≤ 17 → d' 0 j = d 0 j) : YT f n i d' := by
  unfold YT at h ⊢
  split
  · rename_i c; rw [if_pos c] at h; exact ⟨(hj 12 (by omega) (by omega)).trans h.1, (hj 13 (by omega) (by omega)).trans h.2⟩
  · rename_i c; rw [if_neg c] at h
    exact ⟨(hj 12 (by omega) (by omega)).trans h.1, (hj 14 (by omega) (by omega)).trans h.2.1, (hj 15 (by omega) (by omega)).trans h.2.2.1, (hj 16 (by omega) (by omega)).trans h.2.2.2.1, fun z => (hj 17 (by omega) (by omega)).trans (h.2.2.2.2 z)⟩
/-- a put onto the page that is read, its counts, the highest tune -/
def YPu (d d' : DD) : Prop := (∀ a, a ≠ 0 → a ≠ 2 → d' a = d a) ∧ ∀ j, ¬ (5 ≤ j ∧ j ≤ 8) → d' 0 j = d 0 j
theorem YPu.row {d : DD} {j : Nat} {v : Int32} : YPu d (up d 2 j v) := ⟨fun a _ h => up_ne a (by omega), fun i _ => by rw [up_ne 0 (by omega)]⟩
theorem YPu.cnt {d : DD} {j : Nat} {v : Int32} (h1 : 5 ≤ j) (h2 : j ≤ 8) : YPu d (up d 0 j v) := ⟨fun a h _ => up_ne a (by omega), fun i hi => up_n (by omega)⟩
theorem YS.put {f : Nat → Nat} {n : Nat} {m0 d d' : DD} {σ : Sg} (h : YS f n m0 σ d) (p : YPu d d') : YS f n m0 σ d' := by
  obtain ⟨hB, hs⟩ := h
  refine ⟨hB.put p.1 (fun j hj => p.2 j (fun z => hj (by unfold frJ; omega))), ?_⟩
  cases σ with
  | inl e => exact hs.put (fun j a b => p.2 j (by omega))
  | inr i => exact ⟨hs.1, hs.2.put (fun j a b => p.2 j (by omega))⟩
theorem M_stepS {q : DD → Prop} {m0 : DD} {f : Nat → Nat} {n : Nat} {σ : Sg} {d : DD} (hP : YP f n m0 σ d) (h : ∀ d', YS f n m0 σ d' → YTf d d' → q d') : Cn SM MX5_step [.ref 0] d (rV q) := by
  obtain ⟨hB, hs⟩ := hP
  cases σ with
  | inl e =>
    refine cn_X5_step (br_f ?_ (h d ⟨hB, hs⟩ YTf.rf))
    have he : YE n e d := hs
    rw [he.2.1]
    intro z
    have := (nI_leI (b := 0) (by have := he.1.2.1; omega) (by omega)).mp z
    have := he.1.1
    omega
  | inr i =>
    obtain ⟨hi, h12, h14⟩ := hs
    exact M_step hi hB h12 h14 (fun d' t k => h d' ⟨hB.tf t, hi, k⟩ t)
theorem M_num_b {q : Int32 → DD → Prop} {d : DD} {l1 l2 : Int32} (hz : ¬ d 0 12 = 0) (hz2 : ¬ d 0 12 ≤ 0) (h : q l1 d) : Cn SM MX5_number [.ref 0, .int l1, .int l2] d (rI q) :=
  cn_X5_number (rr_f hz (bk_X5_number_20 (rr_f hz (bk_X5_number_47 (rr_f hz (cn_X5_step (br_f hz2 h)))))))
theorem YE.nle {n : Nat} {e : Nat × Nat} {d : DD} (h : YE n e d) : ¬ d 0 12 ≤ 0 := by
  rw [h.2.1]
  intro z
  have := (nI_leI (b := 0) (by have := h.1.2.1; omega) (by omega)).mp z
  have := h.1.1
  omega
theorem YB.t5 {f : Nat → Nat} {n : Nat} {m0 d : DD} (h : YB f n m0 d) {c : Nat} : YTf d (up (up d 0 12 (nI c)) 0 13 (d 0 15)) := (YTf.up (by omega) (by omega)).tr (YTf.up (by omega) (by omega))
theorem M_num {q : Int32 → DD → Prop} {m0 : DD} {f : Nat → Nat} {n lo hi : Nat} {σ : Sg} {d : DD} (hS : YS f n m0 σ d) (hlh : lo ≤ hi) (hh : hi ≤ 99) (h : ∀ v d', v ≤ hi → YS f n m0 (sB (sNum f n lo hi) σ) d' → (∀ i i', σ = .inr i → sNum f n lo hi i = .inr i' → v = tV f n i) → YTf d d' → q (nI v) d') : Cn SM MX5_number [.ref 0, .int (nI lo), .int (nI hi)] d (rI q) := by
  obtain ⟨hB, hs⟩ := id hS
  cases σ with
  | inl e =>
    have he : YE n e d := hs
    exact M_num_b he.nz he.nle (h lo d hlh hS (fun i i' e => by cases e) YTf.rf)
  | inr i =>
    obtain ⟨hi9, hT⟩ := hs
    have hK := tK_le (f := f) (n := n) (i := i)
    have hp := tP_le (f := f) hi9
    have hn := hB.1
    show Cn SM MX5_number [.ref 0, .int (nI lo), .int (nI hi)] d (rI q)
    by_cases c4 : tK f n i = 4
    · have es : sNum f n lo hi i = .inl (1, tP f n i) := by unfold sNum; rw [if_pos c4]
      unfold YT at hT; rw [if_pos c4] at hT
      have he : YE n (1, tP f n i) d := ⟨⟨Nat.le_of_ble_eq_true rfl, Nat.le_of_ble_eq_true rfl, hp⟩, hT.1, hT.2⟩
      refine M_num_b he.nz he.nle (h lo d hlh ?_ (fun j j' e1 e2 => by cases e1; rw [es] at e2; cases e2) YTf.rf)
      show YS f n m0 (sNum f n lo hi i) d
      rw [es]; exact ⟨hB, he⟩
    · unfold YT at hT; rw [if_neg c4] at hT
      obtain ⟨t12, t14, t15, t16, t17⟩ := hT
      have z12 : d 0 12 = 0 := t12
      have bad : ∀ c, 1 ≤ c → c ≤ 6 → sNum f n lo hi i = .inl (c, tP f n i) → ∀ d', d' = up (up d 0 12 (nI c)) 0 13 (d 0 15) → YE n (c, tP f n i) d' ∧ q (nI lo) d' := by
        intro c h1 h6 es d' e
        have he : YE n (c, tP f n i) d' := by
          rw [e]
          exact ⟨⟨h1, h6, hp⟩, by rw [up_n (by omega), up_s], by rw [up_s]; exact t15⟩
        have ht : YTf d d' := by rw [e]; exact hB.t5
        refine ⟨he, h lo d' hlh ?_ (fun j j' e1 e2 => by cases e1; rw [es] at e2; cases e2) ht⟩
        show YS f n m0 (sNum f n lo hi i) d'
        rw [es]; exact ⟨hB.tf ht, he⟩
      refine cn_X5_number (rr_t z12 ?_)
      rw [t16]
      by_cases c2 : tK f n i = 2
      · have hv := tV_lt c2
        refine br_t (by rw [c2]; rfl) (bk_X5_number_20 (rr_t z12 ?_))
        rw [t17 c2, nI_64 (n := lo) (by omega), nI_64 (n := hi) (by omega)]
        refine M_wlh lo hi (by omega) (by omega) (by omega) (fun z => y1 ?_) (fun z => y0 (M_fails (c := 3) (fun _ => ?_) (fun y => absurd z12 y)))
        · have es : sNum f n lo hi i = .inr (tN f n i) := by unfold sNum; rw [if_neg c4, if_pos c2, if_pos z]
          refine bk_X5_number_47 (rr_t z12 (M_stepS (σ := .inr (tN f n i)) ⟨hB, tN_le hi9, t12, t14⟩ (fun d' s t => ?_)))
          rw [t17 c2]
          refine h _ d' z.2 ?_ (fun j j' e1 e2 => by cases e1; rfl) t
          show YS f n m0 (sNum f n lo hi i) d'
          rw [es]; exact s
        · obtain ⟨he, hq⟩ := bad 3 (by omega) (by omega) (by unfold sNum; rw [if_neg c4, if_pos c2, if_neg z]) _ rfl
          exact bk_X5_number_47 (rr_f he.nz (cn_X5_step (br_f he.nle hq)))
      · refine br_f (lit_ne (b := 2) (by omega) (by omega) c2) (M_fails (c := 2) (fun _ => ?_) (fun y => absurd z12 y))
        obtain ⟨he, hq⟩ := bad 2 (by omega) (by omega) (by unfold sNum; rw [if_neg c4, if_neg c2]) _ rfl
        exact bk_X5_number_20 (rr_f he.nz (bk_X5_number_47 (rr_f he.nz (cn_X5_step (br_f he.nle hq)))))
/-- the sign behind a line -/
theorem M_sgnS {q : DD → Prop} {m0 : DD} {f : Nat → Nat} {n : Nat} {σ : Sg} {d : DD} (hS : YS f n m0 σ d) (h : ∀ d', YS f n m0 (sB (sSgn f n) σ) d' → YTf d d' → q d') : (¬ d 0 12 = 0 → Cn SM MX5_step [.ref 0] d (rV fun d5 => q d5)) ∧ (d 0 12 = 0 → ((d 0 16 = 3 → Cn SM MX5_step [.ref 0] d (rV fun d7 => q d7)) ∧ (¬ d 0 16 = 3 → Cn SM MX5_fails [.ref 0, .int 2] d (rV fun d8 => Cn SM MX5_step [.ref 0] d8 (rV fun d9 => q d9))))) := by
  obtain ⟨hB, hs⟩ := id hS
  cases σ with
  | inl e =>
    have he : YE n e d := hs
    exact rr_f he.nz (cn_X5_step (br_f he.nle (h d hS YTf.rf)))
  | inr i =>
    obtain ⟨hi9, hT⟩ := hs
    have hK := tK_le (f := f) (n := n) (i := i)
    have hp := tP_le (f := f) hi9
    by_cases c4 : tK f n i = 4
    · have es : sSgn f n i = .inl (1, tP f n i) := by unfold sSgn; rw [if_pos c4]
      unfold YT at hT; rw [if_pos c4] at hT
      have he : YE n (1, tP f n i) d := ⟨⟨Nat.le_of_ble_eq_true rfl, Nat.le_of_ble_eq_true rfl, hp⟩, hT.1, hT.2⟩
      refine rr_f he.nz (cn_X5_step (br_f he.nle (h d ?_ YTf.rf)))
      show YS f n m0 (sSgn f n i) d
      rw [es]; exact ⟨hB, he⟩
    · unfold YT at hT; rw [if_neg c4] at hT
      obtain ⟨t12, t14, t15, t16, t17⟩ := hT
      have z12 : d 0 12 = 0 := t12
      refine rr_t z12 ?_
      rw [t16]
      by_cases c3 : tK f n i = 3
      · have es : sSgn f n i = .inr (tN f n i) := by unfold sSgn; rw [if_neg c4, if_pos c3]
        refine br_t (by rw [c3]; rfl) (M_stepS (σ := .inr (tN f n i)) ⟨hB, tN_le hi9, t12, t14⟩ (fun d' s t => h d' ?_ t))
        show YS f n m0 (sSgn f n i) d'
        rw [es]; exact s
      · have es : sSgn f n i = .inl (2, tP f n i) := by unfold sSgn; rw [if_neg c4, if_neg c3]
        refine br_f (lit_ne (b := 3) (by omega) (by omega) c3) (M_fails (c := 2) (fun _ => ?_) (fun y => absurd z12 y))
        have ht : YTf d (up (up d 0 12 (nI 2)) 0 13 (d 0 15)) := hB.t5
        have he : YE n (2, tP f n i) (up (up d 0 12 (nI 2)) 0 13 (d 0 15)) := ⟨⟨Nat.le_of_ble_eq_true rfl, Nat.le_of_ble_eq_true rfl, hp⟩, by rw [up_n (by omega), up_s], by rw [up_s]; exact t15⟩
        refine cn_X5_step (br_f he.nle (h _ ?_ ht))
        show YS f n m0 (sSgn f n i) _
        rw [es]; exact ⟨hB.tf ht, he⟩
/-! the page that is read -/
def HI (H : HH) (h : Nat) : Prop := (∀ p, p < nP H → H 8 p < h) ∧ (∀ q, q < nB H → H 9 q < h) ∧ h ≤ 4 ∧ ∀ b, (∀ p, p < nP H → H 8 p < b) → (∀ q, q < nB H → H 9 q < b) → h ≤ b
def Y2 (d : DD) (H : HH) (h : Nat) : Prop := d 0 5 = nI (nT H) ∧ d 0 6 = nI (nP H) ∧ d 0 7 = nI (nB H) ∧
  (∀ t, t < nT H → d 2 t = nI (H 0 t) ∧ d 2 (4 + t) = nI (H 1 t) ∧ d 2 (8 + t) = nI (H 2 t) ∧ d 2 (12 + t) = nI (H 3 t) ∧ ∀ i, i < H 1 t → d 2 (16 + (8 * t + i)) = nI (H 4 (8 * t + i))) ∧
  (∀ p, p < nP H → d 2 (48 + p) = nI (H 5 p) ∧ d 2 (52 + p) = nI (H 6 p) ∧ d 2 (56 + p) = nI (H 7 p) ∧ d 2 (60 + p) = nI (H 8 p)) ∧ (∀ q, q < nB H → d 2 (64 + q) = nI (H 9 q)) ∧ d 0 8 = nI h - 1 ∧ HI H h
theorem Y2.tf {d d' : DD} {H : HH} {h : Nat} (y : Y2 d H h) (t : YTf d d') : Y2 d' H h := by
  obtain ⟨a1, a2, a3, a4, a5, a6, a7, a8⟩ := y
  have r2 := t.1 2 (by omega)
  exact ⟨by rw [t.2 5 (by omega)]; exact a1, by rw [t.2 6 (by omega)]; exact a2, by rw [t.2 7 (by omega)]; exact a3, by rw [r2]; exact a4, by rw [r2]; exact a5, by rw [r2]; exact a6, by rw [t.2 8 (by omega)]; exact a7, a8⟩
theorem le_p1 {v h : Nat} (hv : v ≤ 1000) (hh : h ≤ 1000) : nI v ≤ nI h - 1 ↔ v + 1 ≤ h := by
  have e : (nI h - 1 : Int32).toInt = (h : Int) - 1 := by
    rw [Int32.toInt_sub, nI_toInt (by omega), show ((1 : Int32)).toInt = 1 from by decide]
    exact Int.bmod_eq_of_le (by omega) (by omega)
  rw [i_le, e, nI_toInt (by omega)]
  omega
theorem lt_p1 {v h : Nat} (hv : v ≤ 1000) (hh : h ≤ 1000) : nI h - 1 < nI v ↔ h < v + 1 := by
  have e : (nI h - 1 : Int32).toInt = (h : Int) - 1 := by
    rw [Int32.toInt_sub, nI_toInt (by omega), show ((1 : Int32)).toInt = 1 from by decide]
    exact Int.bmod_eq_of_le (by omega) (by omega)
  rw [i_lt, e, nI_toInt (by omega)]
  omega
theorem M_tuneHere {q : Int32 → DD → Prop} {m0 : DD} {f : Nat → Nat} {n h0 : Nat} {σ : Sg} {d : DD} (hS : YS f n m0 σ d) (h8 : d 0 8 = nI h0 - 1) (hh : h0 ≤ 4) (h : ∀ v d', v ≤ 3 → YS f n m0 (sB (sNum f n 0 3) σ) d' → (∀ i i', σ = .inr i → sNum f n 0 3 i = .inr i' → v = tV f n i) → (∀ a, a ≠ 0 → d' a = d a) → (∀ j, 5 ≤ j → j ≤ 7 → d' 0 j = d 0 j) → d' 0 8 = nI (max h0 (v + 1)) - 1 → q (nI v) d') : Cn SM MX5_tuneHere [.ref 0] d (rI q) := by
  refine cn_X5_tuneHere (M_num (lo := 0) (hi := 3) hS (by omega) (by omega) (fun v d' v3 s ev t => ?_))
  have e8 : d' 0 8 = nI h0 - 1 := by rw [t.2 8 (by omega)]; exact h8
  rw [e8]
  by_cases c : v + 1 ≤ h0
  · refine br_t ((le_p1 (by omega) (by omega)).mpr c) (nm_e (h v _ v3 (s.put (YPu.cnt (by omega) (by omega))) ev (fun a ha => by rw [up_ne a ha]; exact t.1 a ha) (fun j h1 h2 => by rw [up_n (by omega)]; exact t.2 j (by omega)) ?_))
    rw [up_s, show max h0 (v + 1) = h0 by omega]
  · refine br_f (fun z => c ((le_p1 (by omega) (by omega)).mp z)) (nm_e (h v _ v3 (s.put (YPu.cnt (by omega) (by omega))) ev (fun a ha => by rw [up_ne a ha]; exact t.1 a ha) (fun j h1 h2 => by rw [up_n (by omega)]; exact t.2 j (by omega)) ?_))
    rw [up_s, show max h0 (v + 1) = v + 1 by omega, nI_pred]
end
section
/-! ===== the reference reads lines ===== -/
theorem HI_aB {H : HH} {v h : Nat} (y : HI H h) (hv : v ≤ 3) : HI (aB H v) (max h (v + 1)) := by
  obtain ⟨h1, h2, h3, h4⟩ := y
  have e1 : nP (aB H v) = nP H := by show aB H v 10 1 = _; unfold aB; rw [if_neg (by omega), if_neg (by omega)]
  have e2 : nB (aB H v) = nB H + 1 := by show aB H v 10 2 = _; unfold aB; rw [if_neg (by omega), if_pos ⟨rfl, rfl⟩]
  have e8 : ∀ j, aB H v 8 j = H 8 j := fun j => by unfold aB; rw [if_neg (by omega), if_neg (by omega)]
  have e9 : aB H v 9 (nB H) = v := if_pos ⟨rfl, rfl⟩
  have e9n : ∀ j, j ≠ nB H → aB H v 9 j = H 9 j := fun j hj => by unfold aB; rw [if_neg (by omega), if_neg (by omega)]
  refine ⟨fun p hp => ?_, fun q hq => ?_, (by omega), fun b b1 b2 => ?_⟩
  · rw [e1] at hp; rw [e8]; have := h1 p hp; omega
  · rw [e2] at hq
    by_cases c : q = nB H
    · subst c; rw [e9]; omega
    · rw [e9n q c]; have := h2 q (by omega); omega
  · have g1 := h4 b (fun p hp => by have := b1 p (by rw [e1]; exact hp); rw [e8] at this; exact this) (fun q hq => by have := b2 q (by rw [e2]; omega); rw [e9n q (by omega)] at this; exact this)
    have g2 := b2 (nB H) (by rw [e2]; omega)
    rw [e9] at g2
    omega
theorem HI_aP {H : HH} {s b p v h : Nat} (y : HI H h) (hv : v ≤ 3) : HI (aP H s b p v) (max h (v + 1)) := by
  obtain ⟨h1, h2, h3, h4⟩ := y
  have e1 : nP (aP H s b p v) = nP H + 1 := by show aP H s b p v 10 1 = _; unfold aP; rw [if_neg (by omega), if_neg (by omega), if_neg (by omega), if_neg (by omega), if_pos ⟨rfl, rfl⟩]
  have e2 : nB (aP H s b p v) = nB H := by show aP H s b p v 10 2 = _; unfold aP; rw [if_neg (by omega), if_neg (by omega), if_neg (by omega), if_neg (by omega), if_neg (by omega)]
  have e9 : ∀ j, aP H s b p v 9 j = H 9 j := fun j => by unfold aP; rw [if_neg (by omega), if_neg (by omega), if_neg (by omega), if_neg (by omega), if_neg (by omega)]
  have e8 : aP H s b p v 8 (nP H) = v := by unfold aP; rw [if_neg (by omega), if_neg (by omega), if_neg (by omega), if_pos ⟨rfl, rfl⟩]
  have e8n : ∀ j, j ≠ nP H → aP H s b p v 8 j = H 8 j := fun j hj => by unfold aP; rw [if_neg (by omega), if_neg (by omega), if_neg (by omega), if_neg (by omega), if_neg (by omega)]
  refine ⟨fun q hq => ?_, fun q hq => ?_, (by omega), fun b b1 b2 => ?_⟩
  · rw [e1] at hq
    by_cases c : q = nP H
    · subst c; rw [e8]; omega
    · rw [e8n q c]; have := h1 q (by omega); omega
  · rw [e2] at hq; rw [e9]; have := h2 q hq; omega
  · have g1 := h4 b (fun q hq => by have := b1 q (by rw [e1]; omega); rw [e8n q (by omega)] at this; exact this) (fun q hq => by have := b2 q (by rw [e2]; exact hq); rw [e9] at this; exact this)
    have g2 := b1 (nP H) (by rw [e1]; omega)
    rw [e8] at g2
    omega
theorem HI_aT {H : HH} {k tm sr c h : Nat} {g : Nat → Nat} (y : HI H h) : HI (aT H k tm sr c g) h := by
  obtain ⟨h1, h2, h3, h4⟩ := y
  have e1 : nP (aT H k tm sr c g) = nP H := by show aT H k tm sr c g 10 1 = _; unfold aT; rw [if_neg (by omega), if_neg (by omega), if_neg (by omega), if_neg (by omega), if_neg (by omega), if_neg (by omega)]
  have e2 : nB (aT H k tm sr c g) = nB H := by show aT H k tm sr c g 10 2 = _; unfold aT; rw [if_neg (by omega), if_neg (by omega), if_neg (by omega), if_neg (by omega), if_neg (by omega), if_neg (by omega)]
  have ee : ∀ a j, 5 ≤ a ∧ a ≤ 9 → aT H k tm sr c g a j = H a j := fun a j h => by unfold aT; rw [if_neg (by omega), if_neg (by omega), if_neg (by omega), if_neg (by omega), if_neg (by omega), if_neg (by omega)]
  refine ⟨fun q hq => ?_, fun q hq => ?_, h3, fun b b1 b2 => h4 b (fun q hq => ?_) (fun q hq => ?_)⟩
  · rw [e1] at hq; rw [ee 8 _ (by omega)]; exact h1 q hq
  · rw [e2] at hq; rw [ee 9 _ (by omega)]; exact h2 q hq
  · have := b1 q (by rw [e1]; exact hq); rw [ee 8 _ (by omega)] at this; exact this
  · have := b2 q (by rw [e2]; exact hq); rw [ee 9 _ (by omega)] at this; exact this
theorem Y2_aB {H : HH} {v h h' : Nat} {d d' : DD} (ok : OKw H) (hb : nB H < 6) (y : Y2 d H h) (hf : ∀ j, j ≠ 64 + nB H → d' 2 j = d 2 j) (h1 : d' 0 5 = d 0 5) (h2 : d' 0 6 = d 0 6) (h3 : d' 0 7 = nI (nB H + 1)) (h4 : d' 2 (64 + nB H) = nI v) (h8 : d' 0 8 = nI h' - 1) (hi : HI (aB H v) h') : Y2 d' (aB H v) h' := by
  obtain ⟨a1, a2, a3, a4, a5, a6, a7, a8⟩ := y
  obtain ⟨o1, o2, o3, o4, -⟩ := ok
  have e0 : nT (aB H v) = nT H := by show aB H v 10 0 = _; unfold aB; rw [if_neg (by omega), if_neg (by omega)]
  have e1 : nP (aB H v) = nP H := by show aB H v 10 1 = _; unfold aB; rw [if_neg (by omega), if_neg (by omega)]
  have e2 : nB (aB H v) = nB H + 1 := by show aB H v 10 2 = _; unfold aB; rw [if_neg (by omega), if_pos ⟨rfl, rfl⟩]
  have ee : ∀ a j, a ≤ 8 → aB H v a j = H a j := fun a j h => by unfold aB; rw [if_neg (by omega), if_neg (by omega)]
  refine ⟨by rw [e0, h1]; exact a1, by rw [e1, h2]; exact a2, by rw [e2]; exact h3, fun t ht => ?_, fun p hp => ?_, fun q hq => ?_, h8, hi⟩
  · rw [e0] at ht
    obtain ⟨b1, b2, b3, b4, b5⟩ := a4 t ht
    have h88 := (o4 t ht).2.2.1
    refine ⟨by rw [ee 0 _ (by omega), hf _ (by omega)]; exact b1, by rw [ee 1 _ (by omega), hf _ (by omega)]; exact b2, by rw [ee 2 _ (by omega), hf _ (by omega)]; exact b3, by rw [ee 3 _ (by omega), hf _ (by omega)]; exact b4, fun i hi => ?_⟩
    rw [ee 1 _ (by omega)] at hi
    rw [ee 4 _ (by omega), hf _ (by omega)]; exact b5 i hi
  · rw [e1] at hp
    obtain ⟨b1, b2, b3, b4⟩ := a5 p hp
    exact ⟨by rw [ee 5 _ (by omega), hf _ (by omega)]; exact b1, by rw [ee 6 _ (by omega), hf _ (by omega)]; exact b2, by rw [ee 7 _ (by omega), hf _ (by omega)]; exact b3, by rw [ee 8 _ (by omega), hf _ (by omega)]; exact b4⟩
  · rw [e2] at hq
    by_cases c : q = nB H
    · subst c
      rw [show aB H v 9 (nB H) = v from if_pos ⟨rfl, rfl⟩]; exact h4
    · rw [show aB H v 9 q = H 9 q from by unfold aB; rw [if_neg (by omega), if_neg (by omega)], hf _ (by omega)]
      exact a6 q (by omega)
theorem Y2_aP {H : HH} {s b p w h h' : Nat} {d d' : DD} (ok : OKw H) (hb : nP H < 4) (y : Y2 d H h) (hf : ∀ j, j ≠ 48 + nP H → j ≠ 52 + nP H → j ≠ 56 + nP H → j ≠ 60 + nP H → d' 2 j = d 2 j) (h1 : d' 0 5 = d 0 5) (h2 : d' 0 6 = nI (nP H + 1)) (h3 : d' 0 7 = d 0 7) (g1 : d' 2 (48 + nP H) = nI s) (g2 : d' 2 (52 + nP H) = nI b) (g3 : d' 2 (56 + nP H) = nI p) (g4 : d' 2 (60 + nP H) = nI w) (h8 : d' 0 8 = nI h' - 1) (hi : HI (aP H s b p w) h') : Y2 d' (aP H s b p w) h' := by
  obtain ⟨a1, a2, a3, a4, a5, a6, a7, a8⟩ := y
  obtain ⟨o1, o2, o3, o4, -⟩ := ok
  have e0 : nT (aP H s b p w) = nT H := by show aP H s b p w 10 0 = _; unfold aP; rw [if_neg (by omega), if_neg (by omega), if_neg (by omega), if_neg (by omega), if_neg (by omega)]
  have e1 : nP (aP H s b p w) = nP H + 1 := by show aP H s b p w 10 1 = _; unfold aP; rw [if_neg (by omega), if_neg (by omega), if_neg (by omega), if_neg (by omega), if_pos ⟨rfl, rfl⟩]
  have e2 : nB (aP H s b p w) = nB H := by show aP H s b p w 10 2 = _; unfold aP; rw [if_neg (by omega), if_neg (by omega), if_neg (by omega), if_neg (by omega), if_neg (by omega)]
  have ee : ∀ a j, a ≤ 4 ∨ a = 9 → aP H s b p w a j = H a j := fun a j h => by unfold aP; rw [if_neg (by omega), if_neg (by omega), if_neg (by omega), if_neg (by omega), if_neg (by omega)]
  refine ⟨by rw [e0, h1]; exact a1, by rw [e1]; exact h2, by rw [e2, h3]; exact a3, fun t ht => ?_, fun q hq => ?_, fun q hq => ?_, h8, hi⟩
  · rw [e0] at ht
    obtain ⟨b1, b2, b3, b4, b5⟩ := a4 t ht
    have h88 := (o4 t ht).2.2.1
    refine ⟨by rw [ee 0 _ (by omega), hf _ (by omega) (by omega) (by omega) (by omega)]; exact b1, by rw [ee 1 _ (by omega), hf _ (by omega) (by omega) (by omega) (by omega)]; exact b2, by rw [ee 2 _ (by omega), hf _ (by omega) (by omega) (by omega) (by omega)]; exact b3, by rw [ee 3 _ (by omega), hf _ (by omega) (by omega) (by omega) (by omega)]; exact b4, fun i hi => ?_⟩
    rw [ee 1 _ (by omega)] at hi
    rw [ee 4 _ (by omega), hf _ (by omega) (by omega) (by omega) (by omega)]; exact b5 i hi
  · rw [e1] at hq
    by_cases c : q = nP H
    · subst c
      refine ⟨?_, ?_, ?_, ?_⟩
      · rw [show aP H s b p w 5 (nP H) = s from if_pos ⟨rfl, rfl⟩]; exact g1
      · rw [show aP H s b p w 6 (nP H) = b from by unfold aP; rw [if_neg (by omega), if_pos ⟨rfl, rfl⟩]]; exact g2
      · rw [show aP H s b p w 7 (nP H) = p from by unfold aP; rw [if_neg (by omega), if_neg (by omega), if_pos ⟨rfl, rfl⟩]]; exact g3
      · rw [show aP H s b p w 8 (nP H) = w from by unfold aP; rw [if_neg (by omega), if_neg (by omega), if_neg (by omega), if_pos ⟨rfl, rfl⟩]]; exact g4
    · have ej : ∀ a, a ≤ 9 → aP H s b p w a q = H a q := fun a h => by unfold aP; rw [if_neg (by omega), if_neg (by omega), if_neg (by omega), if_neg (by omega), if_neg (by omega)]
      obtain ⟨b1, b2, b3, b4⟩ := a5 q (by omega)
      exact ⟨by rw [ej 5 (by omega), hf _ (by omega) (by omega) (by omega) (by omega)]; exact b1, by rw [ej 6 (by omega), hf _ (by omega) (by omega) (by omega) (by omega)]; exact b2, by rw [ej 7 (by omega), hf _ (by omega) (by omega) (by omega) (by omega)]; exact b3, by rw [ej 8 (by omega), hf _ (by omega) (by omega) (by omega) (by omega)]; exact b4⟩
  · rw [e2] at hq
    rw [ee 9 _ (by omega), hf _ (by omega) (by omega) (by omega) (by omega)]; exact a6 q hq
theorem Y2_aT {H : HH} {k tm sr c h : Nat} {g : Nat → Nat} {d d' : DD} (ok : OKw H) (hb : nT H < 4) (hc : c ≤ 8) (y : Y2 d H h) (hf : ∀ j, j ≠ nT H → j ≠ 4 + nT H → j ≠ 8 + nT H → j ≠ 12 + nT H → ¬ (16 + 8 * nT H ≤ j ∧ j < 16 + 8 * nT H + 8) → d' 2 j = d 2 j) (h1 : d' 0 5 = nI (nT H + 1)) (h2 : d' 0 6 = d 0 6) (h3 : d' 0 7 = d 0 7) (h8 : d' 0 8 = d 0 8) (g1 : d' 2 (nT H) = nI k) (g2 : d' 2 (4 + nT H) = nI c) (g3 : d' 2 (8 + nT H) = nI tm) (g4 : d' 2 (12 + nT H) = nI sr) (g5 : ∀ j, j < c → d' 2 (16 + (8 * nT H + j)) = nI (g j)) : Y2 d' (aT H k tm sr c g) h := by
  obtain ⟨a1, a2, a3, a4, a5, a6, a7, a8⟩ := y
  obtain ⟨o1, o2, o3, o4, -⟩ := ok
  have e0 : nT (aT H k tm sr c g) = nT H + 1 := by show aT H k tm sr c g 10 0 = _; unfold aT; rw [if_neg (by omega), if_neg (by omega), if_neg (by omega), if_neg (by omega), if_neg (by omega), if_pos ⟨rfl, rfl⟩]
  have e1 : nP (aT H k tm sr c g) = nP H := by show aT H k tm sr c g 10 1 = _; unfold aT; rw [if_neg (by omega), if_neg (by omega), if_neg (by omega), if_neg (by omega), if_neg (by omega), if_neg (by omega)]
  have e2 : nB (aT H k tm sr c g) = nB H := by show aT H k tm sr c g 10 2 = _; unfold aT; rw [if_neg (by omega), if_neg (by omega), if_neg (by omega), if_neg (by omega), if_neg (by omega), if_neg (by omega)]
  have ee : ∀ a j, 5 ≤ a ∧ a ≤ 9 → aT H k tm sr c g a j = H a j := fun a j h => by unfold aT; rw [if_neg (by omega), if_neg (by omega), if_neg (by omega), if_neg (by omega), if_neg (by omega), if_neg (by omega)]
  refine ⟨by rw [e0]; exact h1, by rw [e1, h2]; exact a2, by rw [e2, h3]; exact a3, fun t ht => ?_, fun p hp => ?_, fun q hq => ?_, by rw [h8]; exact a7, HI_aT a8⟩
  · rw [e0] at ht
    by_cases z : t = nT H
    · subst z
      have c1 : aT H k tm sr c g 1 (nT H) = c := by unfold aT; rw [if_neg (by omega), if_pos ⟨rfl, rfl⟩]
      refine ⟨?_, ?_, ?_, ?_, fun i hi => ?_⟩
      · rw [show aT H k tm sr c g 0 (nT H) = k from if_pos ⟨rfl, rfl⟩]; exact g1
      · rw [c1]; exact g2
      · rw [show aT H k tm sr c g 2 (nT H) = tm from by unfold aT; rw [if_neg (by omega), if_neg (by omega), if_pos ⟨rfl, rfl⟩]]; exact g3
      · rw [show aT H k tm sr c g 3 (nT H) = sr from by unfold aT; rw [if_neg (by omega), if_neg (by omega), if_neg (by omega), if_pos ⟨rfl, rfl⟩]]; exact g4
      · rw [c1] at hi
        rw [show aT H k tm sr c g 4 (8 * nT H + i) = g i from by unfold aT; rw [if_neg (by omega), if_neg (by omega), if_neg (by omega), if_neg (by omega), if_pos ⟨rfl, (by omega), (by omega)⟩, Nat.add_sub_cancel_left]]
        exact g5 i hi
    · have ht2 : t < nT H := by omega
      have ej : ∀ a, a ≤ 3 → aT H k tm sr c g a t = H a t := fun a h => by unfold aT; rw [if_neg (by omega), if_neg (by omega), if_neg (by omega), if_neg (by omega), if_neg (by omega), if_neg (by omega)]
      obtain ⟨b1, b2, b3, b4, b5⟩ := a4 t ht2
      have h88 := (o4 t ht2).2.2.1
      refine ⟨by rw [ej 0 (by omega), hf _ (by omega) (by omega) (by omega) (by omega) (by omega)]; exact b1, by rw [ej 1 (by omega), hf _ (by omega) (by omega) (by omega) (by omega) (by omega)]; exact b2, by rw [ej 2 (by omega), hf _ (by omega) (by omega) (by omega) (by omega) (by omega)]; exact b3, by rw [ej 3 (by omega), hf _ (by omega) (by omega) (by omega) (by omega) (by omega)]; exact b4, fun i hi => ?_⟩
      rw [ej 1 (by omega)] at hi
      rw [show aT H k tm sr c g 4 (8 * t + i) = H 4 (8 * t + i) from by unfold aT; rw [if_neg (by omega), if_neg (by omega), if_neg (by omega), if_neg (by omega), if_neg (by omega), if_neg (by omega)], hf _ (by omega) (by omega) (by omega) (by omega) (by omega)]
      exact b5 i hi
  · rw [e1] at hp
    obtain ⟨b1, b2, b3, b4⟩ := a5 p hp
    exact ⟨by rw [ee 5 _ (by omega), hf _ (by omega) (by omega) (by omega) (by omega) (by omega)]; exact b1, by rw [ee 6 _ (by omega), hf _ (by omega) (by omega) (by omega) (by omega) (by omega)]; exact b2, by rw [ee 7 _ (by omega), hf _ (by omega) (by omega) (by omega) (by omega) (by omega)]; exact b3, by rw [ee 8 _ (by omega), hf _ (by omega) (by omega) (by omega) (by omega) (by omega)]; exact b4⟩
  · rw [e2] at hq
    rw [ee 9 _ (by omega), hf _ (by omega) (by omega) (by omega) (by omega) (by omega)]; exact a6 q hq
/-- what the reference has behind a line -/
def PY (f : Nat → Nat) (n : Nat) (m0 : DD) (R : Rl) (d : DD) : Prop := match R with
  | .inl e => YS f n m0 (.inl e) d
  | .inr z => YS f n m0 (.inr z.2) d ∧ ∃ h, Y2 d z.1 h
theorem M_bd {q : DD → Prop} {m0 : DD} {f : Nat → Nat} {n i h0 : Nat} {d : DD} {H : HH} (hS : YS f n m0 (.inr i) d) (hY : Y2 d H h0) (ok : OKw H) (hb : nB H < 6) (h : ∀ d', YS f n m0 (sNum f n 0 3 i) d' → (∀ i', sNum f n 0 3 i = .inr i' → ∃ h, Y2 d' (aB H (tV f n i)) h) → q d') : Cn SM MX5_readMore [.ref 0, .int (nI 5)] d (rV q) := by
  have e7 := hY.2.2.1
  refine cn_X5_readMore (br_t (by decide) (rr_f (by decide) ?_))
  rw [e7]
  refine M_tuneHere hS hY.2.2.2.2.2.2.1 hY.2.2.2.2.2.2.2.2.2.1 (fun v d1 v3 s1 ev f1 f2 f3 => ?_)
  rw [show (64 : Int32) + nI (nB H) = nI (64 + nB H) from nI_add 64 _]
  refine ⟨vp_in_nI (by omega) (by omega), nm_e (nm_e ?_)⟩
  rw [nI_clamp (by omega), up_ne 0 (by omega), f2 7 (by omega) (by omega), e7, nI_1]
  refine h _ ((s1.put YPu.row).put (YPu.cnt (by omega) (by omega))) (fun i' ei => ?_)
  have := ev i i' rfl ei
  subst this
  refine ⟨max h0 (tV f n i + 1), Y2_aB ok hb hY (fun j hj => ?_) ?_ ?_ ?_ ?_ ?_ (HI_aB hY.2.2.2.2.2.2.2 v3)⟩
  · rw [up_ne 2 (by omega), up_n (by omega), f1 2 (by omega)]
  · rw [up_n (by omega), up_ne 0 (by omega), f2 5 (by omega) (by omega)]
  · rw [up_n (by omega), up_ne 0 (by omega), f2 6 (by omega) (by omega)]
  · rw [up_s]
  · rw [up_ne 2 (by omega), up_s]
  · rw [up_n (by omega), up_ne 0 (by omega)]; exact f3
def sP4 (f : Nat → Nat) (n i : Nat) : Sg := sB (sNum f n 0 3) (sB (sNum f n 0 9) (sB (sNum f n 1 99) (sNum f n 0 9 i)))
theorem M_pl {q : DD → Prop} {m0 : DD} {f : Nat → Nat} {n i h0 : Nat} {d : DD} {H : HH} (hS : YS f n m0 (.inr i) d) (hY : Y2 d H h0) (ok : OKw H) (hb : nP H < 4) (h : ∀ d', YS f n m0 (sP4 f n i) d' → (∀ i1 i2 i3 i4, sNum f n 0 9 i = .inr i1 → sNum f n 1 99 i1 = .inr i2 → sNum f n 0 9 i2 = .inr i3 → sNum f n 0 3 i3 = .inr i4 → ∃ h, Y2 d' (aP H (tV f n i) (tV f n i1) (tV f n i2) (tV f n i3)) h) → q d') : Cn SM MX5_readMore [.ref 0, .int (nI 4)] d (rV q) := by
  have e6 := hY.2.1
  refine cn_X5_readMore (br_t (by decide) (rr_t rfl (M_num (lo := 0) (hi := 9) hS (by omega) (by omega) (fun v1 d1 _ s1 ev1 t1 => ?_))))
  rw [e6, show (48 : Int32) + nI (nP H) = nI (48 + nP H) from nI_add 48 _, nI_clamp (by omega)]
  refine ⟨vp_in_nI (by omega) (by omega), nm_e (M_num (lo := 1) (hi := 99) (s1.put YPu.row) (by omega) (by omega) (fun v2 d2 _ s2 ev2 t2 => ?_))⟩
  have g6 : up d1 2 (48 + nP H) (nI v1) 0 6 = nI (nP H) := by rw [up_ne 0 (by omega), t1.2 6 (by omega)]; exact e6
  rw [g6, show (52 : Int32) + nI (nP H) = nI (52 + nP H) from nI_add 52 _, nI_clamp (by omega)]
  refine ⟨vp_in_nI (by omega) (by omega), nm_e (M_num (lo := 0) (hi := 9) (s2.put YPu.row) (by omega) (by omega) (fun v3 d3 _ s3 ev3 t3 => ?_))⟩
  have g7 : up d2 2 (52 + nP H) (nI v2) 0 6 = nI (nP H) := by rw [up_ne 0 (by omega), t2.2 6 (by omega)]; exact g6
  rw [g7, show (56 : Int32) + nI (nP H) = nI (56 + nP H) from nI_add 56 _, nI_clamp (by omega)]
  have g8 : up d3 2 (56 + nP H) (nI v3) 0 6 = nI (nP H) := by rw [up_ne 0 (by omega), t3.2 6 (by omega)]; exact g7
  have h8 : up d3 2 (56 + nP H) (nI v3) 0 8 = nI h0 - 1 := by rw [up_ne 0 (by omega), t3.2 8 (by omega), up_ne 0 (by omega), t2.2 8 (by omega), up_ne 0 (by omega), t1.2 8 (by omega)]; exact hY.2.2.2.2.2.2.1
  refine ⟨vp_in_nI (by omega) (by omega), nm_e (M_tuneHere (s3.put YPu.row) h8 hY.2.2.2.2.2.2.2.2.2.1 (fun v4 d4 w3 s4 ev4 f1 f2 f3 => ?_))⟩
  rw [g8, show (60 : Int32) + nI (nP H) = nI (60 + nP H) from nI_add 60 _, nI_clamp (by omega)]
  refine ⟨vp_in_nI (by omega) (by omega), nm_e (nm_e ?_)⟩
  rw [up_ne 0 (by omega), f2 6 (by omega) (by omega), g8, nI_1]
  refine h _ ((s4.put YPu.row).put (YPu.cnt (by omega) (by omega))) (fun i1 i2 i3 i4 z1 z2 z3 z4 => ?_)
  have w1 := ev1 i i1 rfl z1
  have w2 := ev2 i1 i2 z1 z2
  have w3' := ev3 i2 i3 (by show sB (sNum f n 1 99) (sNum f n 0 9 i) = _; rw [z1]; exact z2) z3
  have w4 := ev4 i3 i4 (by show sB (sNum f n 0 9) (sB (sNum f n 1 99) (sNum f n 0 9 i)) = _; rw [z1]; show sB (sNum f n 0 9) (sNum f n 1 99 i1) = _; rw [z2]; exact z3) z4
  subst w1 w2 w3' w4
  refine ⟨max h0 (tV f n i3 + 1), Y2_aP ok hb hY (fun j j1 j2 j3 j4 => ?_) ?_ ?_ ?_ ?_ ?_ ?_ ?_ ?_ (HI_aP hY.2.2.2.2.2.2.2 w3)⟩
  · rw [up_ne 2 (by omega), up_n (by omega), f1 2 (by omega), up_n (by omega), t3.1 2 (by omega), up_n (by omega), t2.1 2 (by omega), up_n (by omega), t1.1 2 (by omega)]
  · rw [up_n (by omega), up_ne 0 (by omega), f2 5 (by omega) (by omega), up_ne 0 (by omega), t3.2 5 (by omega), up_ne 0 (by omega), t2.2 5 (by omega), up_ne 0 (by omega), t1.2 5 (by omega)]
  · rw [up_s]
  · rw [up_n (by omega), up_ne 0 (by omega), f2 7 (by omega) (by omega), up_ne 0 (by omega), t3.2 7 (by omega), up_ne 0 (by omega), t2.2 7 (by omega), up_ne 0 (by omega), t1.2 7 (by omega)]
  · rw [up_ne 2 (by omega), up_n (by omega), f1 2 (by omega), up_n (by omega), t3.1 2 (by omega), up_n (by omega), t2.1 2 (by omega), up_s]
  · rw [up_ne 2 (by omega), up_n (by omega), f1 2 (by omega), up_n (by omega), t3.1 2 (by omega), up_s]
  · rw [up_ne 2 (by omega), up_n (by omega), f1 2 (by omega), up_s]
  · rw [up_ne 2 (by omega), up_s]
  · rw [up_n (by omega), up_ne 0 (by omega)]; exact f3
def sNt3 (s : Sum (Nat × Nat) (Nat × (Nat → Nat) × Nat)) : Sg := match s with
  | .inl e => .inl e
  | .inr z => .inr z.2.2
/-- what the notes' loop leaves -/
def FY (t : Nat) (d d' : DD) : Prop := (∀ j, ¬ (16 + 8 * t ≤ j ∧ j < 16 + 8 * t + 8) → j ≠ 4 + t → d' 2 j = d 2 j) ∧ (∀ j, 6 ≤ j → j ≤ 8 → d' 0 j = d 0 j)
theorem FY.tr {t : Nat} {a b c : DD} (h : FY t a b) (h2 : FY t b c) : FY t a c := ⟨fun j u v => (h2.1 j u v).trans (h.1 j u v), fun j u v => (h2.2 j u v).trans (h.2 j u v)⟩
theorem FY.of {t : Nat} {d d' : DD} (h : YTf d d') : FY t d d' := ⟨fun j _ _ => by rw [h.1 2 (by omega)], fun j u v => h.2 j (by omega)⟩
/-- the end of the notes' loop -/
theorem M_nt_end {q : DD → Prop} {d : DD} {t c : Nat} (ht : t < 4) (hc : c ≤ 8) (e5 : d 0 5 = nI t) (h : FY t d (up (up d 2 (4 + t) (nI c)) 0 5 (nI (t + 1))) → up (up d 2 (4 + t) (nI c)) 0 5 (nI (t + 1)) 0 5 = nI (t + 1) → up (up d 2 (4 + t) (nI c)) 0 5 (nI (t + 1)) 2 (4 + t) = nI c → (∀ j, j ≠ 4 + t → up (up d 2 (4 + t) (nI c)) 0 5 (nI (t + 1)) 2 j = d 2 j) → YPu d (up (up d 2 (4 + t) (nI c)) 0 5 (nI (t + 1))) → q (up (up d 2 (4 + t) (nI c)) 0 5 (nI (t + 1)))) : vp_in (4 + nI t) 70 ∧ (∀ d2 : DD, d2 = (up d 2 ((4 : Int32) + nI t).toNatClampNeg (nI c)) → (∀ d3 : DD, d3 = (up d2 0 5 ((d2 0 5) + 1)) → q d3)) := by
  rw [show (4 : Int32) + nI t = nI (4 + t) from nI_add 4 _, nI_clamp (by omega)]
  refine ⟨vp_in_nI (by omega) (by omega), nm_e (nm_e ?_)⟩
  rw [up_ne 0 (by omega), e5, nI_1]
  refine h ⟨fun j u v => by rw [up_ne 2 (by omega), up_n (by omega)], fun j u v => by rw [up_n (by omega), up_ne 0 (by omega)]⟩ up_s (by rw [up_ne 2 (by omega), up_s]) (fun j hj => by rw [up_ne 2 (by omega), up_n (by omega)]) ⟨fun a u v => by rw [up_ne a u, up_ne a v], fun j u => by rw [up_n (by omega), up_ne 0 (by omega)]⟩
theorem M_notes_bad {q : DD → Prop} {m0 : DD} {f : Nat → Nat} {n t : Nat} {l1 : Int32} (ht : t < 4) {c : Nat} {d : DD} {e : Nat × Nat} (hc : c ≤ 8) (hS : YS f n m0 (.inl e) d) (e5 : d 0 5 = nI t) (h : ∀ d', YS f n m0 (.inl e) d' → FY t d d' → q d') : Ev SM MX5_readTune 65 [.ref 0, .int l1, .int (nI t), .int (nI c)] [] d (rV q) := by
  have he : YE n e d := hS.2
  exact bk_X5_readTune_65 (rr_f he.nz (M_nt_end ht hc e5 (fun a1 a2 a3 a4 a5 => h _ (hS.put a5) a1)))
theorem M_notes {q : DD → Prop} {m0 : DD} {f : Nat → Nat} {n t : Nat} {l1 : Int32} (ht : t < 4) : ∀ r c i g d, r + c = 9 → 1 ≤ c → c ≤ 8 → YS f n m0 (.inr i) d → d 0 5 = nI t → (∀ j, j < c → d 2 (16 + (8 * t + j)) = nI (g j)) → (∀ d', YS f n m0 (sNt3 (sNt wM f n r c i g)) d' → FY t d d' → (∀ c' g' i', sNt wM f n r c i g = .inr (c', g', i') → d' 0 5 = nI (t + 1) ∧ c' ≤ 8 ∧ d' 2 (4 + t) = nI c' ∧ ∀ j, j < c' → d' 2 (16 + (8 * t + j)) = nI (g' j)) → q d') → Ev SM MX5_readTune 65 [.ref 0, .int l1, .int (nI t), .int (nI c)] [] d (rV q) := by
  have bad : ∀ c d e, c ≤ 8 → YS f n m0 (.inl e) d → d 0 5 = nI t → (∀ d', YS f n m0 (.inl e) d' → FY t d d' → q d') → Ev SM MX5_readTune 65 [.ref 0, .int l1, .int (nI t), .int (nI c)] [] d (rV q) := by
    intro c d e hc hS e5 h
    have he : YE n e d := hS.2
    exact bk_X5_readTune_65 (rr_f he.nz (M_nt_end ht hc e5 (fun a1 a2 a3 a4 a5 => h _ (hS.put a5) a1)))
  intro r
  induction r with
  | zero => intro c i g d h9 h1 h8; omega
  | succ r ih =>
    intro c i g d h9 h1 h8 hS e5 e16 h
    obtain ⟨hB, hi9, hT⟩ := id hS
    have hK := tK_le (f := f) (n := n) (i := i)
    have stop : tK f n i ≠ 2 → vp_in (4 + nI t) 70 ∧ (∀ d2 : DD, d2 = (up d 2 ((4 : Int32) + nI t).toNatClampNeg (nI c)) → (∀ d3 : DD, d3 = (up d2 0 5 ((d2 0 5) + 1)) → q d3)) := by
      intro c2
      have es : sNt wM f n (r + 1) c i g = .inr (c, g, i) := by show (if tK f n i = 2 then _ else _) = _; rw [if_neg c2]
      rw [es] at h
      refine M_nt_end ht h8 e5 (fun a1 a2 a3 a4 a5 => h _ (hS.put a5) a1 (fun c' g' i' e => ?_))
      cases e
      exact ⟨a2, h8, a3, fun j hj => by rw [a4 _ (by omega)]; exact e16 j hj⟩
    refine bk_X5_readTune_65 ?_
    by_cases c4 : tK f n i = 4
    · have hT4 := hT
      unfold YT at hT4; rw [if_pos c4] at hT4
      exact rr_f (by rw [hT4.1]; exact lit_ne (a := 1) (b := 0) (by omega) (by omega) (by omega)) (stop (by omega))
    · have hTn := hT
      unfold YT at hTn; rw [if_neg c4] at hTn
      obtain ⟨t12, t14, t15, t16, t17⟩ := hTn
      have z12 : d 0 12 = 0 := t12
      refine rr_t z12 ?_
      rw [t16]
      by_cases c2 : tK f n i = 2
      · refine rr_t (by rw [c2]; rfl) ?_
        by_cases c8 : c = 8
        · have es : sNt wM f n (r + 1) c i g = .inl (5, tP f n i) := by show (if tK f n i = 2 then _ else _) = _; rw [if_pos c2, if_pos c8]; rfl
          rw [es] at h
          refine rr_t (by rw [c8]; rfl) (M_fails (c := 5) (fun _ => ?_) (fun y => absurd z12 y))
          have htf : YTf d (up (up d 0 12 (nI 5)) 0 13 (d 0 15)) := hB.t5
          exact bad c _ (5, tP f n i) h8 ⟨hB.tf htf, ⟨Nat.le_of_ble_eq_true rfl, Nat.le_of_ble_eq_true rfl, tP_le hi9⟩, by rw [up_n (by omega), up_s], by rw [up_s]; exact t15⟩ (by rw [up_n (by omega), up_n (by omega)]; exact e5) (fun d' s f2 => h d' s ((FY.of htf).tr f2) (fun c' g' i' e => by cases e))
        · have es : sNt wM f n (r + 1) c i g = if tV f n i ≤ 9 then sNt wM f n r (c + 1) (tN f n i) (fun j => if j = c then tV f n i else g j) else .inl (3, tP f n i) := by
            show (if tK f n i = 2 then _ else _) = _
            rw [if_pos c2, if_neg c8]
          rw [es] at h
          have en : sNum f n 0 9 i = if tV f n i ≤ 9 then .inr (tN f n i) else .inl (3, tP f n i) := by
            unfold sNum
            rw [if_neg (by omega), if_pos c2]
            by_cases z : tV f n i ≤ 9
            · rw [if_pos ⟨Nat.zero_le _, z⟩, if_pos z]
            · rw [if_neg (fun y => z y.2), if_neg z]
          refine rr_f (lit_ne (b := 8) (by omega) (by omega) c8) (M_num (lo := 0) (hi := 9) hS (by omega) (by omega) (fun v d1 v9 s1 ev t1 => ?_))
          rw [show ((16 : Int32) + (8 * nI t)) + nI c = nI (16 + (8 * t + c)) from by rw [show (8 : Int32) = nI 8 from rfl, pk_mul, show (16 : Int32) = nI 16 from rfl, nI_add, nI_add, Nat.add_assoc], nI_clamp (by omega), nI_1]
          refine ⟨vp_in_nI (by omega) (by omega), nm_e ?_⟩
          have s1' : YS f n m0 (sNum f n 0 9 i) d1 := s1
          have g5 : up d1 2 (16 + (8 * t + c)) (nI v) 0 5 = nI t := by rw [up_ne 0 (by omega), t1.2 5 (by omega)]; exact e5
          have fr : FY t d (up d1 2 (16 + (8 * t + c)) (nI v)) := ⟨fun j u w => by rw [up_n (by omega), t1.1 2 (by omega)], fun j u w => by rw [up_ne 0 (by omega), t1.2 j (by omega)]⟩
          rw [en] at s1'
          by_cases z : tV f n i ≤ 9
          · rw [if_pos z] at s1' h
            have w1 := ev i _ rfl (by rw [en, if_pos z])
            subst w1
            refine ih (c + 1) (tN f n i) (fun j => if j = c then tV f n i else g j) _ (by omega) (by omega) (by omega) (s1'.put YPu.row) g5 (fun j hj => ?_) (fun d' s f2 ok => h d' s (fr.tr f2) ok)
            by_cases y : j = c
            · rw [y, up_s]; show _ = nI (if c = c then _ else _); rw [if_pos rfl]
            · rw [up_n (by omega), t1.1 2 (by omega), e16 j (by omega)]; show _ = nI (if j = c then _ else _); rw [if_neg y]
          · rw [if_neg z] at s1' h
            exact bad (c + 1) _ _ (by omega) (s1'.put YPu.row) g5 (fun d' s f2 => h d' s (fr.tr f2) (fun c' g' i' e => by cases e))
      · exact rr_f (lit_ne (b := 2) (by omega) (by omega) c2) (stop c2)
end
section
/-! ===== the reference reads a line, all lines ===== -/
def sTuM (f : Nat → Nat) (n i : Nat) : Sg := sB (fun i1 => sB (fun i2 => sB (fun i3 => sNt3 (sNt wM f n 8 1 i3 (g0 (tV f n i2)))) (sNum f n 0 9 i2)) (sNum f n 0 9 i1)) (sNum f n 1 9 i)
theorem M_tu {q : DD → Prop} {m0 : DD} {f : Nat → Nat} {n i h0 k : Nat} {d : DD} {H : HH} (hS : YS f n m0 (.inr i) d) (hY : Y2 d H h0) (ok : OKw H) (hk : k ≤ 3) (hb : nT H < 4) (h : ∀ d', YS f n m0 (sTuM f n i) d' → (∀ i1 i2 i3 c g i', sNum f n 1 9 i = .inr i1 → sNum f n 0 9 i1 = .inr i2 → sNum f n 0 9 i2 = .inr i3 → sNt wM f n 8 1 i3 (g0 (tV f n i2)) = .inr (c, g, i') → ∃ h, Y2 d' (aT H k (tV f n i) (tV f n i1) c g) h) → q d') : Cn SM MX5_readMore [.ref 0, .int (nI k)] d (rV q) := by
  have e5 := hY.1
  refine cn_X5_readMore (br_f (fun z => absurd ((nI_ltI (a := 3) (by omega) (by omega)).mp z) (by omega)) (cn_X5_readTune ?_))
  rw [e5, show (8 : Int32) + nI (nT H) = nI (8 + nT H) from nI_add 8 _, show (12 : Int32) + nI (nT H) = nI (12 + nT H) from nI_add 12 _, show (16 : Int32) + (8 * nI (nT H)) = nI (16 + 8 * nT H) from by rw [show (8 : Int32) = nI 8 from rfl, pk_mul, show (16 : Int32) = nI 16 from rfl, nI_add], nI_clamp (by omega), nI_clamp (by omega), nI_clamp (by omega), nI_clamp (by omega)]
  refine ⟨vp_in_nI (by omega) (by omega), nm_e (M_num (lo := 1) (hi := 9) (hS.put YPu.row) (by omega) (by omega) (fun v1 d1 _ s1 ev1 t1 => ⟨vp_in_nI (by omega) (by omega), nm_e ?_⟩))⟩
  refine M_num (lo := 0) (hi := 9) (s1.put YPu.row) (by omega) (by omega) (fun v2 d2 _ s2 ev2 t2 => ⟨vp_in_nI (by omega) (by omega), nm_e ?_⟩)
  refine M_num (lo := 0) (hi := 9) (s2.put YPu.row) (by omega) (by omega) (fun v3 d3 _ s3 ev3 t3 => ⟨vp_in_nI (by omega) (by omega), nm_e ?_⟩)
  have s4 : YS f n m0 (sB (sNum f n 0 9) (sB (sNum f n 0 9) (sNum f n 1 9 i))) (up d3 2 (16 + 8 * nT H) (nI v3)) := s3.put YPu.row
  have g5 : up d3 2 (16 + 8 * nT H) (nI v3) 0 5 = nI (nT H) := by rw [up_ne 0 (by omega), t3.2 5 (by omega), up_ne 0 (by omega), t2.2 5 (by omega), up_ne 0 (by omega), t1.2 5 (by omega), up_ne 0 (by omega)]; exact e5
  have bad : ∀ e, YS f n m0 (.inl e) (up d3 2 (16 + 8 * nT H) (nI v3)) → sTuM f n i = .inl e → (∀ i1 i2 i3, sNum f n 1 9 i = .inr i1 → sNum f n 0 9 i1 = .inr i2 → sNum f n 0 9 i2 = .inr i3 → False) → Ev SM MX5_readTune 65 [.ref 0, .int (nI k), .int (nI (nT H)), .int 1] [] (up d3 2 (16 + 8 * nT H) (nI v3)) (rV fun d20 => q d20) := by
    intro e hA es no
    exact M_notes_bad (c := 1) hb (by omega) hA g5 (fun d' s _ => h d' (by rw [es]; exact s) (fun i1 i2 i3 c g i' u1 u2 u3 u4 => absurd (no i1 i2 i3 u1 u2 u3) id))
  rcases z1 : sNum f n 1 9 i with e | i1
  · rw [z1] at s4
    exact bad e s4 (by unfold sTuM; rw [z1]; rfl) (fun i1 i2 i3 u1 _ _ => by rw [z1] at u1; cases u1)
  rw [z1] at s4
  have s5 : YS f n m0 (sB (sNum f n 0 9) (sNum f n 0 9 i1)) (up d3 2 (16 + 8 * nT H) (nI v3)) := s4
  rcases z2 : sNum f n 0 9 i1 with e | i2
  · rw [z2] at s5
    exact bad e s5 (by unfold sTuM; rw [z1]; show sB _ (sNum f n 0 9 i1) = _; rw [z2]; rfl) (fun j1 j2 j3 u1 u2 _ => by rw [z1] at u1; cases u1; rw [z2] at u2; cases u2)
  rw [z2] at s5
  have s6 : YS f n m0 (sNum f n 0 9 i2) (up d3 2 (16 + 8 * nT H) (nI v3)) := s5
  rcases z3 : sNum f n 0 9 i2 with e | i3
  · rw [z3] at s6
    exact bad e s6 (by unfold sTuM; rw [z1]; show sB _ (sNum f n 0 9 i1) = _; rw [z2]; show sB _ (sNum f n 0 9 i2) = _; rw [z3]; rfl) (fun j1 j2 j3 u1 u2 u3 => by rw [z1] at u1; cases u1; rw [z2] at u2; cases u2; rw [z3] at u3; cases u3)
  rw [z3] at s6
  have w1 := ev1 i i1 rfl z1
  have w2 := ev2 i1 i2 z1 z2
  have w3 := ev3 i2 i3 (by show sB (sNum f n 0 9) (sNum f n 1 9 i) = _; rw [z1]; exact z2) z3
  subst w1 w2 w3
  have es : sTuM f n i = sNt3 (sNt wM f n 8 1 i3 (g0 (tV f n i2))) := by unfold sTuM; rw [z1]; show sB _ (sNum f n 0 9 i1) = _; rw [z2]; show sB _ (sNum f n 0 9 i2) = _; rw [z3]; rfl
  refine M_notes (c := 1) hb 8 i3 (g0 (tV f n i2)) _ rfl (by omega) (by omega) s6 g5 (fun j hj => ?_) (fun d' s fr okk => h d' (by rw [es]; exact s) (fun j1 j2 j3 c g i' u1 u2 u3 u4 => ?_))
  · rw [show j = 0 by omega, Nat.add_zero, up_s]; rfl
  · rw [z1] at u1; cases u1
    rw [z2] at u2; cases u2
    rw [z3] at u3; cases u3
    obtain ⟨o5, o1, o2, o3⟩ := okk c g i' u4
    obtain ⟨r1, r2⟩ := fr
    refine ⟨h0, Y2_aT ok hb o1 hY (fun j q1 q2 q3 q4 q5 => ?_) o5 ?_ ?_ ?_ ?_ o2 ?_ ?_ o3⟩
    · rw [r1 j q5 q2, up_n (by omega), t3.1 2 (by omega), up_n (by omega), t2.1 2 (by omega), up_n (by omega), t1.1 2 (by omega), up_n (by omega)]
    · rw [r2 6 (by omega) (by omega), up_ne 0 (by omega), t3.2 6 (by omega), up_ne 0 (by omega), t2.2 6 (by omega), up_ne 0 (by omega), t1.2 6 (by omega), up_ne 0 (by omega)]
    · rw [r2 7 (by omega) (by omega), up_ne 0 (by omega), t3.2 7 (by omega), up_ne 0 (by omega), t2.2 7 (by omega), up_ne 0 (by omega), t1.2 7 (by omega), up_ne 0 (by omega)]
    · rw [r2 8 (by omega) (by omega), up_ne 0 (by omega), t3.2 8 (by omega), up_ne 0 (by omega), t2.2 8 (by omega), up_ne 0 (by omega), t1.2 8 (by omega), up_ne 0 (by omega)]
    · rw [r1 _ (by omega) (by omega), up_n (by omega), t3.1 2 (by omega), up_n (by omega), t2.1 2 (by omega), up_n (by omega), t1.1 2 (by omega), up_s]
    · rw [r1 _ (by omega) (by omega), up_n (by omega), t3.1 2 (by omega), up_n (by omega), t2.1 2 (by omega), up_s]
    · rw [r1 _ (by omega) (by omega), up_n (by omega), t3.1 2 (by omega), up_s]
theorem PY_Tu {f : Nat → Nat} {n i k : Nat} {m0 d d' : DD} {H : HH} (hS : YS f n m0 (sB (sSgn f n) (sTuM f n i)) d') (t : YTf d d') (ho : ∀ i1 i2 i3 c g i', sNum f n 1 9 i = .inr i1 → sNum f n 0 9 i1 = .inr i2 → sNum f n 0 9 i2 = .inr i3 → sNt wM f n 8 1 i3 (g0 (tV f n i2)) = .inr (c, g, i') → ∃ h, Y2 d (aT H k (tV f n i) (tV f n i1) c g) h) : PY f n m0 (rTu wM f n i k H) d' := by
  unfold rTu
  unfold sTuM at hS
  rcases z1 : sNum f n 1 9 i with e | i1
  · rw [z1] at hS; exact hS
  rw [z1] at hS
  have hS : YS f n m0 (sB (sSgn f n) (sB (fun i2 => sB (fun i3 => sNt3 (sNt wM f n 8 1 i3 (g0 (tV f n i2)))) (sNum f n 0 9 i2)) (sNum f n 0 9 i1))) d' := hS
  show PY f n m0 (rB _ (sNum f n 0 9 i1)) d'
  rcases z2 : sNum f n 0 9 i1 with e | i2
  · rw [z2] at hS; exact hS
  rw [z2] at hS
  have hS : YS f n m0 (sB (sSgn f n) (sB (fun i3 => sNt3 (sNt wM f n 8 1 i3 (g0 (tV f n i2)))) (sNum f n 0 9 i2))) d' := hS
  show PY f n m0 (rB _ (sNum f n 0 9 i2)) d'
  rcases z3 : sNum f n 0 9 i2 with e | i3
  · rw [z3] at hS; exact hS
  rw [z3] at hS
  have hS : YS f n m0 (sB (sSgn f n) (sNt3 (sNt wM f n 8 1 i3 (g0 (tV f n i2))))) d' := hS
  have ho := ho i1 i2 i3
  show PY f n m0 (match sNt wM f n 8 1 i3 (g0 (tV f n i2)) with
    | .inl e => .inl e
    | .inr z => rB (fun i4 => .inr (aT H k (tV f n i) (tV f n i1) z.1 z.2.1, i4)) (sSgn f n z.2.2)) d'
  rcases z4 : sNt wM f n 8 1 i3 (g0 (tV f n i2)) with e | ⟨c, g, i'⟩
  · rw [z4] at hS; exact hS
  rw [z4] at hS
  have hS : YS f n m0 (sSgn f n i') d' := hS
  obtain ⟨hh, y⟩ := ho c g i' z1 z2 z3 z4
  show PY f n m0 (rB _ (sSgn f n i')) d'
  rcases z5 : sSgn f n i' with e | i4
  · rw [z5] at hS; exact hS
  rw [z5] at hS
  exact ⟨hS, hh, y.tf t⟩
theorem PY_Pl {f : Nat → Nat} {n i : Nat} {m0 d d' : DD} {H : HH} (hS : YS f n m0 (sB (sSgn f n) (sP4 f n i)) d') (t : YTf d d') (ho : ∀ i1 i2 i3 i4, sNum f n 0 9 i = .inr i1 → sNum f n 1 99 i1 = .inr i2 → sNum f n 0 9 i2 = .inr i3 → sNum f n 0 3 i3 = .inr i4 → ∃ h, Y2 d (aP H (tV f n i) (tV f n i1) (tV f n i2) (tV f n i3)) h) : PY f n m0 (rPl f n i H) d' := by
  unfold rPl
  unfold sP4 at hS
  rcases z1 : sNum f n 0 9 i with e | i1
  · rw [z1] at hS; exact hS
  rw [z1] at hS
  have hS : YS f n m0 (sB (sSgn f n) (sB (sNum f n 0 3) (sB (sNum f n 0 9) (sNum f n 1 99 i1)))) d' := hS
  show PY f n m0 (rB _ (sNum f n 1 99 i1)) d'
  rcases z2 : sNum f n 1 99 i1 with e | i2
  · rw [z2] at hS; exact hS
  rw [z2] at hS
  have hS : YS f n m0 (sB (sSgn f n) (sB (sNum f n 0 3) (sNum f n 0 9 i2))) d' := hS
  show PY f n m0 (rB _ (sNum f n 0 9 i2)) d'
  rcases z3 : sNum f n 0 9 i2 with e | i3
  · rw [z3] at hS; exact hS
  rw [z3] at hS
  have hS : YS f n m0 (sB (sSgn f n) (sNum f n 0 3 i3)) d' := hS
  show PY f n m0 (rB _ (sNum f n 0 3 i3)) d'
  rcases z4 : sNum f n 0 3 i3 with e | i4
  · rw [z4] at hS; exact hS
  rw [z4] at hS
  have hS : YS f n m0 (sSgn f n i4) d' := hS
  obtain ⟨hh, y⟩ := ho i1 i2 i3 i4 z1 z2 z3 z4
  show PY f n m0 (rB _ (sSgn f n i4)) d'
  rcases z5 : sSgn f n i4 with e | i5
  · rw [z5] at hS; exact hS
  rw [z5] at hS
  exact ⟨hS, hh, y.tf t⟩
theorem PY_Bd {f : Nat → Nat} {n i : Nat} {m0 d d' : DD} {H : HH} (hS : YS f n m0 (sB (sSgn f n) (sNum f n 0 3 i)) d') (t : YTf d d') (ho : ∀ i1, sNum f n 0 3 i = .inr i1 → ∃ h, Y2 d (aB H (tV f n i)) h) : PY f n m0 (rBd f n i H) d' := by
  unfold rBd
  rcases z1 : sNum f n 0 3 i with e | i1
  · rw [z1] at hS; exact hS
  rw [z1] at hS
  have hS : YS f n m0 (sSgn f n i1) d' := hS
  obtain ⟨hh, y⟩ := ho i1 z1
  show PY f n m0 (rB _ (sSgn f n i1)) d'
  rcases z5 : sSgn f n i1 with e | i5
  · rw [z5] at hS; exact hS
  rw [z5] at hS
  exact ⟨hS, hh, y.tf t⟩
/-! the six names -/
def ctN : List Nat := [0, 5, 10, 15, 22, 28, 33]
theorem ct_nI : ∀ k : Fin 7, cutsC.getD k.1 0 = nI (ctN.getD k.1 0) := by decide +kernel
theorem ct_len : ∀ k : Fin 6, ctN.getD (k.1 + 1) 0 = ctN.getD k.1 0 + strLen.getD k.1 0 ∧ ctN.getD (k.1 + 1) 0 ≤ 33 := by decide +kernel
theorem ct_let : ∀ (k : Fin 6) (j : Fin 7), j.1 < strLen.getD k.1 0 → lettC.getD (ctN.getD k.1 0 + j.1) 0 = (strByt.getD k.1 []).getD j.1 0 := by decide +kernel
theorem M_nameHere {q : Int32 → DD → Prop} {m0 : DD} {f : Nat → Nat} {n i : Nat} {d : DD} (hB : YB f n m0 d) (hi : i ≤ n) (c4 : tK f n i ≠ 4) (hT : YT f n i d) (h : ∀ k, k < 6 → nmK f n i k = true → (∀ y, y < k → nmK f n i y = false) → q (nI k) d) (h0 : (∀ y, y < 6 → nmK f n i y = false) → q (-4) d) : Cn SM MX5_nameHere [.ref 0] d (rI q) := by
  unfold YT at hT; rw [if_neg c4] at hT
  obtain ⟨t12, t14, t15, t16, t17⟩ := hT
  obtain ⟨b1, b2, b3, b4, ⟨rc1, rc2⟩, b6, b7⟩ := id hB
  have hK := tK_le (f := f) (n := n) (i := i)
  have hle := tN_le (f := f) hi
  have hge := tN_ge (f := f) (n := n) (i := i)
  refine cn_X5_nameHere ?_
  rw [li_0]
  suffices hs : ∀ r k, r + k = 6 → (∀ y, y < k → nmK f n i y = false) → Ev SM MX5_nameHere 2 [.ref 0, .int (nI k), uJ, uJ] [] d (rI q) from hs 6 0 rfl (fun y hy => absurd hy (Nat.not_lt_zero y))
  intro r
  induction r with
  | zero =>
    intro k hk ha
    exact bk_X5_nameHere_2 (br_t (nI_le (a := 6) (by omega) (by omega)) (h0 (fun y hy => ha y (by omega))))
  | succ r ih =>
    intro k hk ha
    have hk6 : k < 6 := by omega
    obtain ⟨cl1, cl2⟩ := ct_len ⟨k, hk6⟩
    have cl1' : ctN.getD (k + 1) 0 = ctN.getD k 0 + strLen.getD k 0 := cl1
    have cl2' : ctN.getD (k + 1) 0 ≤ 33 := cl2
    have h7 : strLen.getD k 0 ≤ 7 := strLen7 ⟨k, hk6⟩
    have nx : nmK f n i k = false → Ev SM MX5_nameHere 2 [.ref 0, .int (nI (k + 1)), uJ, uJ] [] d (rI q) := fun e => ih (k + 1) (by omega) (fun y hy => by
      by_cases cy : y = k
      · rw [cy]; exact e
      · exact ha y (by omega))
    refine bk_X5_nameHere_2 (br_f (fun z => absurd ((nI_leI (a := 6) (by omega) (by omega)).mp z) (by omega)) ?_)
    rw [t16]
    by_cases c1 : tK f n i = 1
    · refine rr_t (by rw [c1]; rfl) ?_
      have e1 : d 4 k = nI (ctN.getD k 0) := (rc1 k (by omega)).trans (ct_nI ⟨k, (by omega)⟩)
      have e2 : d 4 (k + 1) = nI (ctN.getD (k + 1) 0) := (rc1 (k + 1) (by omega)).trans (ct_nI ⟨k + 1, (by omega)⟩)
      rw [nI_1, nI_clamp (by omega), nI_clamp (by omega), e1, e2, t14, t15, pk_sub hge, pk_sub (show ctN.getD k 0 ≤ ctN.getD (k + 1) 0 by omega), cl1', Nat.add_sub_cancel_left]
      refine ⟨vp_in_nI (by omega) (by omega), vp_in_nI (by omega) (by omega), ?_⟩
      -- not this one
      have no : ∀ l3 : Int32, nmI f k (tP f n i) (tN f n i) = false → Ev SM MX5_nameHere 51 [.ref 0, .int (nI k), .int 0, .int l3] [] d (rI q) := by
        intro l3 hf
        refine bk_X5_nameHere_51 (br_t rfl (br_t rfl ?_))
        rw [nI_1]
        exact nx (by unfold nmK; rw [hf, Bool.and_false])
      by_cases cl : tN f n i - tP f n i = strLen.getD k 0
      · refine rr_t (by rw [cl]) ?_
        rw [li_0]
        suffices hs : ∀ s j, s + j = strLen.getD k 0 → (∀ y, y < j → nI (f (tP f n i + y)) = (strByt.getD k []).getD y 0) → Ev SM MX5_nameHere 51 [.ref 0, .int (nI k), .int 1, .int (nI j)] [] d (rI q) from hs _ 0 (Nat.add_zero _) (fun y hy => absurd hy (Nat.not_lt_zero y))
        intro s
        induction s with
        | zero =>
          intro j hj hy
          refine bk_X5_nameHere_51 (br_f (by decide) (br_t ?_ (br_f (by decide) (h k hk6 ?_ ha))))
          · rw [t14, t15, pk_sub hge]; exact nI_le (by omega) (by omega)
          · unfold nmK; rw [decide_eq_true c1, nmI_t cl (fun y hy2 => hy y (by omega))]; rfl
        | succ s ihs =>
          intro j hj hy
          have hjl : j < strLen.getD k 0 := by omega
          refine bk_X5_nameHere_51 (br_f (by decide) (br_f ?_ ?_))
          · rw [t14, t15, pk_sub hge]; exact fun z => absurd ((nI_leI (by omega) (by omega)).mp z) (by omega)
          rw [t15, nI_add]
          refine M_byte hB (by omega) (fun c => ?_) (fun c => absurd (show tP f n i + j < n by omega) c)
          rw [nI_clamp (by omega), e1, nI_add, nI_clamp (by omega), rc2 _ (by omega), nI_1]
          have el : lettC.getD (ctN.getD k 0 + j) 0 = (strByt.getD k []).getD j 0 := ct_let ⟨k, hk6⟩ ⟨j, (by omega)⟩ hjl
          rw [el]
          refine ⟨vp_in_nI (by omega) (by omega), vp_in_nI (by omega) (by omega), ?_⟩
          by_cases ce : nI (f (tP f n i + j)) = (strByt.getD k []).getD j 0
          · exact rr_t ce (ihs (j + 1) (by omega) (fun y hy2 => by
              by_cases cy : y = j
              · rw [cy]; exact ce
              · exact hy y (by omega)))
          · exact rr_f ce (no _ (nmI_f hjl ce))
      · exact rr_f (lit_ne (by omega) (by omega) cl) (no _ (nmI_l cl))
    · refine rr_f (lit_ne (b := 1) (by omega) (by omega) c1) (h0 (fun y hy => ?_))
      unfold nmK; rw [decide_eq_false c1, Bool.false_and]
end
section
theorem M_in5 {q : Int32 → DD → Prop} {d : DD} {k : Nat} (hk : k < 6) (h : q 1 d) : Cn SM MX5_in [.long (nI k).toInt64, .long 0, .long 5] d (rI q) := M_wlh 0 5 (by omega) (by omega) (by omega) (fun _ => h) (fun z => absurd ⟨Nat.zero_le _, (by omega)⟩ z)
theorem M_in5n {q : Int32 → DD → Prop} {d : DD} (h : q 0 d) : Cn SM MX5_in [.long ((-4 : Int32)).toInt64, .long 0, .long 5] d (rI q) := M_wm4 (lo := 0) (hi := 5) (by omega) h
theorem rB_4 {α : Type} {f : Nat → Nat} {n lo hi i : Nat} {g : Nat → Sum (Nat × Nat) α} (h : tK f n i = 4) : rB g (sNum f n lo hi i) = .inl (1, tP f n i) := by
  unfold sNum; rw [if_pos h]; rfl
theorem M_readLine {q : DD → Prop} {m0 : DD} {f : Nat → Nat} {n i h0 : Nat} {d : DD} {H : HH} (hS : YS f n m0 (.inr i) d) (c4 : tK f n i ≠ 4) (hY : Y2 d H h0) (ok : OKw H) (h : ∀ d', PY f n m0 (sLn wM f n i H) d' → q d') : Cn SM MX5_readLine [.ref 0] d (rV q) := by
  obtain ⟨hB, hi, hT⟩ := id hS
  have hp := tP_le (f := f) hi
  have hTn := hT
  unfold YT at hTn; rw [if_neg c4] at hTn
  obtain ⟨t12, t14, t15, t16, t17⟩ := hTn
  have z12 : d 0 12 = 0 := t12
  have hN := tN_le (f := f) hi
  -- a FAULT here
  have badE : ∀ c, 1 ≤ c → c ≤ 6 → YS f n m0 (.inl (c, tP f n i)) (up (up d 0 12 (nI c)) 0 13 (d 0 15)) := fun c h1 h6 => ⟨hB.tf hB.t5, ⟨h1, h6, hp⟩, by rw [up_n (by omega), up_s], by rw [up_s]; exact t15⟩
  have bad5 : ∀ k, sLn wM f n i H = .inl (5, tP f n i) → Cn SM MX5_fails [.ref 0, .int (nI 5)] d (rV fun d3 => Ev SM MX5_readLine 68 [.ref 0, .int (nI k)] [] d3 (rV q)) := by
    intro k es
    refine M_fails (c := 5) (fun _ => ?_) (fun y => absurd z12 y)
    have hb := badE 5 (by omega) (by omega)
    have he : YE n (5, tP f n i) _ := hb.2
    exact bk_X5_readLine_68 (cn_X5_step (br_f he.nle (br_f he.nle (h _ (by rw [es]; exact hb)))))
  -- the rest of a line
  have k68 : ∀ k (R : Rl), sLn wM f n i H = R → (tK f n (tN f n i) = 4 → R = .inl (1, tP f n (tN f n i))) → (∀ d1, YS f n m0 (.inr (tN f n i)) d1 → Y2 d1 H h0 → ∀ q2 : DD → Prop, (∀ d3, (∃ σ, YS f n m0 σ d3 ∧ ∀ d4, YS f n m0 (sB (sSgn f n) σ) d4 → YTf d3 d4 → PY f n m0 R d4) → q2 d3) → Cn SM MX5_readMore [.ref 0, .int (nI k)] d1 (rV q2)) → Ev SM MX5_readLine 68 [.ref 0, .int (nI k)] [] d (rV q) := by
    intro k R es h4 hm
    refine bk_X5_readLine_68 (M_stepS (σ := .inr (tN f n i)) ⟨hB, hN, t12, t14⟩ (fun d1 s1 tt => ?_))
    obtain ⟨hB1, hi1, hT1⟩ := id s1
    by_cases c : tK f n (tN f n i) = 4
    · have hT4 := hT1
      unfold YT at hT4; rw [if_pos c] at hT4
      have he : YE n (1, tP f n (tN f n i)) d1 := ⟨⟨Nat.le_of_ble_eq_true rfl, Nat.le_of_ble_eq_true rfl, tP_le hN⟩, hT4.1, hT4.2⟩
      exact br_f he.nle (h d1 (by rw [es, h4 c]; exact ⟨hB1, he⟩))
    · have hT4 := hT1
      unfold YT at hT4; rw [if_neg c] at hT4
      refine br_t (by rw [hT4.1]; exact nI_le (a := 0) (b := 0) (by omega) (by omega)) (hm d1 s1 (hY.tf tt) _ (fun d3 hd3 => ?_))
      obtain ⟨σ, s3, fin⟩ := hd3
      exact M_sgnS s3 (fun d4 s4 t4 => h d4 (by rw [es]; exact fin d4 s4 t4))
  refine cn_X5_readLine (M_nameHere hB hi c4 hT (fun k hk6 hk ha => M_in5 hk6 (y1 ?_)) (fun ha => M_in5n (y0 (M_fails (c := 2) (fun _ => h _ ?_) (fun y => absurd z12 y)))))
  · by_cases c3 : 3 < k
    · refine br_t ((nI_ltI (a := 3) (by omega) (by omega)).mpr c3) (bk_X5_readLine_36 ?_)
      by_cases ck4 : k = 4
      · subst ck4
        have a0 := ha 0 (by omega); have a1 := ha 1 (by omega); have a2 := ha 2 (by omega); have a3 := ha 3 (by omega)
        have es : sLn wM f n i H = if nP H < 4 then rPl f n (tN f n i) H else .inl (5, tP f n i) := by unfold sLn; rw [if_neg c4, if_neg (by rw [a0]; decide), if_neg (by rw [a1]; decide), if_neg (by rw [a2]; decide), if_neg (by rw [a3]; decide), if_pos hk]
        refine rr_t rfl ?_
        rw [hY.2.1]
        by_cases c : nP H < 4
        · rw [if_pos c] at es
          refine br_f (lit_ne (b := 4) (by omega) (by omega) (by omega)) (bk_X5_readLine_49 (rr_f (by decide) (k68 4 _ es (fun z => rB_4 z) (fun d1 s1 y1 q2 hq => M_pl s1 y1 ok c (fun d3 s3 o3 => hq d3 ⟨_, s3, fun d4 s4 t4 => PY_Pl s4 t4 o3⟩)))))
        · rw [if_neg c] at es
          have := ok.2.1
          exact br_t (by rw [show nP H = 4 by omega]; rfl) (bad5 4 es)
      · have ck5 : k = 5 := by omega
        subst ck5
        have a0 := ha 0 (by omega); have a1 := ha 1 (by omega); have a2 := ha 2 (by omega); have a3 := ha 3 (by omega); have a4 := ha 4 (by omega)
        have es : sLn wM f n i H = if nB H < 6 then rBd f n (tN f n i) H else .inl (5, tP f n i) := by unfold sLn; rw [if_neg c4, if_neg (by rw [a0]; decide), if_neg (by rw [a1]; decide), if_neg (by rw [a2]; decide), if_neg (by rw [a3]; decide), if_neg (by rw [a4]; decide), if_pos hk]
        refine rr_f (by decide) (bk_X5_readLine_49 (rr_t rfl ?_))
        rw [hY.2.2.1]
        by_cases c : nB H < 6
        · rw [if_pos c] at es
          refine rr_f (lit_ne (b := 6) (by omega) (by omega) (by omega)) (k68 5 _ es (fun z => rB_4 z) (fun d1 s1 y1 q2 hq => M_bd s1 y1 ok c (fun d3 s3 o3 => hq d3 ⟨_, s3, fun d4 s4 t4 => PY_Bd s4 t4 o3⟩)))
        · rw [if_neg c] at es
          have := ok.2.2.1
          exact rr_t (by rw [show nB H = 6 by omega]; rfl) (bad5 5 es)
    · have k3 : k ≤ 3 := by omega
      have es : sLn wM f n i H = if nT H < 4 then rTu wM f n (tN f n i) k H else .inl (5, tP f n i) := by
        unfold sLn
        rw [if_neg c4]
        rcases (show k = 0 ∨ k = 1 ∨ k = 2 ∨ k = 3 by omega) with rfl | rfl | rfl | rfl
        · rw [if_pos hk]
        · rw [if_neg (by rw [ha 0 (by omega)]; decide), if_pos hk]
        · rw [if_neg (by rw [ha 0 (by omega)]; decide), if_neg (by rw [ha 1 (by omega)]; decide), if_pos hk]
        · rw [if_neg (by rw [ha 0 (by omega)]; decide), if_neg (by rw [ha 1 (by omega)]; decide), if_neg (by rw [ha 2 (by omega)]; decide), if_pos hk]
      refine br_f (fun z => absurd ((nI_ltI (a := 3) (by omega) (by omega)).mp z) c3) ?_
      rw [hY.1]
      by_cases c : nT H < 4
      · rw [if_pos c] at es
        refine br_f (lit_ne (b := 4) (by omega) (by omega) (by omega)) (bk_X5_readLine_36 (rr_f (lit_ne (b := 4) (by omega) (by omega) (by omega)) (bk_X5_readLine_49 (rr_f (lit_ne (b := 5) (by omega) (by omega) (by omega)) (k68 k _ es (fun z => rB_4 z) (fun d1 s1 y1 q2 hq => M_tu s1 y1 ok k3 c (fun d3 s3 o3 => hq d3 ⟨_, s3, fun d4 s4 t4 => PY_Tu s4 t4 o3⟩)))))))
      · rw [if_neg c] at es
        have := ok.1
        exact br_t (by rw [show nT H = 4 by omega]; rfl) (bad5 k es)
  · have es : sLn wM f n i H = .inl (2, tP f n i) := by
      unfold sLn
      rw [if_neg c4, if_neg (by rw [ha 0 (by omega)]; decide), if_neg (by rw [ha 1 (by omega)]; decide), if_neg (by rw [ha 2 (by omega)]; decide), if_neg (by rw [ha 3 (by omega)]; decide), if_neg (by rw [ha 4 (by omega)]; decide), if_neg (by rw [ha 5 (by omega)]; decide)]
    rw [es]; exact badE 2 (by omega) (by omega)
/-- the reference's end of the reading -/
def PYl (f : Nat → Nat) (n : Nat) (m0 : DD) (R : Sum (Nat × Nat) (HH × Nat)) (l : Int32) (d : DD) : Prop := match R with
  | .inl e => YB f n m0 d ∧ YE n e d
  | .inr z => l = nI z.2 ∧ z.2 ≤ 160 ∧ YB f n m0 d ∧ d 0 12 = nI 0 ∧ (∃ h, Y2 d z.1 h) ∧ OKw z.1
theorem HI.all {H : HH} {h : Nat} (y : HI H h) : allI H = decide (h ≤ nT H) := by
  obtain ⟨h1, h2, h3, h4⟩ := y
  by_cases c : h ≤ nT H
  · rw [decide_eq_true c]
    exact allI_t (fun p hp => by have := h1 p hp; omega) (fun q hq => by have := h2 q hq; omega)
  · rw [decide_eq_false c, Bool.eq_false_iff]
    intro z
    obtain ⟨a, b⟩ := allI_r z
    exact c (h4 _ a b)
theorem M_all_81b {q : Int32 → DD → Prop} {m0 : DD} {f : Nat → Nat} {n : Nat} {d : DD} {e : Nat × Nat} {l1 l2 : Int32} (hB : YB f n m0 d) (he : YE n e d) (h : ∀ l d', PYl f n m0 (.inl e) l d' → Ev SM MX5_text 105 [.ref 0, .int l, .int l2] [] d' (rI q)) : Ev SM MX5_text 81 [.ref 0, .int l1, .int l2] [] d (rI q) :=
  bk_X5_text_81 (rr_f he.nz (h l1 d ⟨hB, he⟩))
theorem M_all_57 {q : Int32 → DD → Prop} {m0 : DD} {f : Nat → Nat} {n : Nat} {l2 : Int32} : ∀ r i H h0 l d, n - i < r → l ≤ i → YS f n m0 (.inr i) d → Y2 d H h0 → OKw H → (∀ l' d', PYl f n m0 (sTot wM f n (sAll wM f n r i H l)) l' d' → Ev SM MX5_text 105 [.ref 0, .int l', .int l2] [] d' (rI q)) → Ev SM MX5_text 57 [.ref 0, .int (nI l), .int l2] [] d (rI q) := by
  intro r
  induction r with
  | zero => intro i H h0 l d h1; omega
  | succ r ih =>
    intro i H h0 l d hr hl hS hY ok h
    obtain ⟨hB, hi, hT⟩ := id hS
    have hn := hB.1
    have hK := tK_le (f := f) (n := n) (i := i)
    have hp := tP_le (f := f) hi
    by_cases c4 : tK f n i = 4
    · have hT4 := hT
      unfold YT at hT4; rw [if_pos c4] at hT4
      have he : YE n (1, tP f n i) d := ⟨⟨Nat.le_of_ble_eq_true rfl, Nat.le_of_ble_eq_true rfl, hp⟩, hT4.1, hT4.2⟩
      have es : sAll wM f n (r + 1) i H l = .inl (1, tP f n i) := by
        have e0 : sLn wM f n i H = .inl (1, tP f n i) := if_pos c4
        rw [sAll, if_neg (show ¬ tK f n i = 0 by omega), e0]
      rw [es] at h
      exact bk_X5_text_57 (rr_f he.nz (M_all_81b hB he h))
    · have hTn := hT
      unfold YT at hTn; rw [if_neg c4] at hTn
      obtain ⟨t12, t14, t15, t16, t17⟩ := hTn
      have z12 : d 0 12 = 0 := t12
      refine bk_X5_text_57 (rr_t z12 ?_)
      rw [t16]
      by_cases c0 : tK f n i = 0
      · have es : sAll wM f n (r + 1) i H l = .inr (H, l) := by show (if tK f n i = 0 then _ else _) = _; rw [if_pos c0]
        rw [es] at h
        refine br_t (by rw [c0]; rfl) (bk_X5_text_81 (rr_t z12 ?_))
        have h8 := hY.2.2.2.2.2.2.1
        have hI := hY.2.2.2.2.2.2.2
        have hle := hI.2.2.1
        have o1 := ok.1
        rw [h8, hY.1]
        have hall := hI.all
        by_cases c : h0 ≤ nT H
        · have et : sTot wM f n (.inr (H, l)) = .inr (H, l) := by show (if allI H = true then _ else _) = _; rw [hall, decide_eq_true c, if_pos rfl]
          rw [et] at h
          exact br_t ((lt_p1 (by omega) (by omega)).mpr (by omega)) (h _ d ⟨rfl, (by omega), hB, t12, ⟨h0, hY⟩, ok⟩)
        · have et : sTot wM f n (.inr (H, l)) = .inl (6, n) := by show (if allI H = true then _ else _) = _; rw [hall, decide_eq_false c, if_neg (by decide)]
          rw [et] at h
          refine br_f (fun z => absurd ((lt_p1 (by omega) (by omega)).mp z) (by omega)) (M_fails (c := 6) (fun _ => ?_) (fun y => absurd z12 y))
          have ep : tP f n i = n := (tK0 hi).mp c0
          exact h (nI l) _ ⟨hB.tf hB.t5, ⟨Nat.le_of_ble_eq_true rfl, Nat.le_of_ble_eq_true rfl, Nat.le_refl n⟩, by rw [up_n (by omega), up_s], by rw [up_s, t15, ep]⟩
      · have es : sAll wM f n (r + 1) i H l = match sLn wM f n i H with
            | .inl e => .inl e
            | .inr z => sAll wM f n r z.2 z.1 (l + 1) := by show (if tK f n i = 0 then _ else _) = _; rw [if_neg c0]; try rfl
        rw [es] at h
        refine br_f (lit_ne (b := 0) (by omega) (by omega) c0) (M_readLine hS c4 hY ok (fun d1 hP => ?_))
        rw [nI_1]
        rcases hs : sLn wM f n i H with e | ⟨H', i'⟩
        · rw [hs] at hP h
          obtain ⟨hB1, he⟩ : YB f n m0 d1 ∧ YE n e d1 := hP
          exact bk_X5_text_57 (rr_f he.nz (M_all_81b hB1 he h))
        · rw [hs] at hP h
          obtain ⟨hS1, h1, hY1⟩ : YS f n m0 (.inr i') d1 ∧ ∃ h, Y2 d1 H' h := hP
          obtain ⟨g1, g2, g3⟩ := sLn_r hi ok hs
          exact ih i' H' h1 (l + 1) d1 (by omega) (by omega) hS1 hY1 g3 h
/-- what text() leaves of the reference -/
def PMt (m0 : DD) (R : Sum (Nat × Nat) (HH × Nat)) (r : Int32) (d : DD) : Prop := match R with
  | .inl e => r = (-10) - nI e.2 ∧ d 0 10 = nI 0 ∧ d 0 11 = nI e.1 ∧ (∀ a, a ≠ 0 → a ≠ 2 → d a = m0 a) ∧ ∀ j, ¬ frJ j → j ≠ 10 → j ≠ 11 → d 0 j = m0 0 j
  | .inr z => r = nI z.2 ∧ z.2 ≤ 160 ∧ d 0 10 = nI 0 ∧ d 0 11 = nI 0 ∧ d 0 28 = nI 0 ∧ d 13 0 = nI 0 ∧ d 13 1 = nI 0 ∧ MH 0 d z.1 ∧ OKw z.1 ∧ allI z.1 = true ∧ (∀ a, 2 < a → a ≠ 13 → d a = m0 a) ∧ ∀ j, ¬ frJ j → ¬ (1 ≤ j ∧ j ≤ 3) → j ≠ 10 → j ≠ 11 → j ≠ 28 → d 0 j = m0 0 j
theorem M_text {q : Int32 → DD → Prop} {m0 : DD} {f : Nat → Nat} {n : Nat} (hB : YB f n m0 m0) (h : ∀ r d', PMt m0 (sTxt wM f n) r d' → q r d') : Cn SM MX5_text [.ref 0] m0 (rI q) := by
  have hn := hB.1
  refine cn_X5_text (nm_e (nm_e (nm_e (nm_e (nm_e (nm_e ?_))))))
  generalize ed : up (up (up (up (up (up m0 0 12 0) 0 14 0) 0 5 0) 0 6 0) 0 7 0) 0 8 (-1) = d
  have hB2 : YB f n m0 d := hB.put (fun a u v => by rw [← ed, up_ne a (by omega), up_ne a (by omega), up_ne a (by omega), up_ne a (by omega), up_ne a (by omega), up_ne a (by omega)]) (fun j hj => by
    unfold frJ at hj
    rw [← ed, up_n (by omega), up_n (by omega), up_n (by omega), up_n (by omega), up_n (by omega), up_n (by omega)])
  have e12 : d 0 12 = nI 0 := by rw [← ed, up_n (by omega), up_n (by omega), up_n (by omega), up_n (by omega), up_n (by omega), up_s]; rfl
  have e14 : d 0 14 = nI 0 := by rw [← ed, up_n (by omega), up_n (by omega), up_n (by omega), up_n (by omega), up_s]; rfl
  have e5 : d 0 5 = nI 0 := by rw [← ed, up_n (by omega), up_n (by omega), up_n (by omega), up_s]; rfl
  have e6 : d 0 6 = nI 0 := by rw [← ed, up_n (by omega), up_n (by omega), up_s]; rfl
  have e7 : d 0 7 = nI 0 := by rw [← ed, up_n (by omega), up_s]; rfl
  have e8 : d 0 8 = nI 0 - 1 := by rw [← ed, up_s]; decide
  clear ed
  -- the end, by what was found
  have k105 : ∀ l2 l' d', PYl f n m0 (sTxt wM f n) l' d' → Ev SM MX5_text 105 [.ref 0, .int l', .int l2] [] d' (rI q) := by
    intro l2 l' d1 hP
    refine bk_X5_text_105 (nm_e (nm_e ?_))
    rw [up_n (d := d1) (by omega)]
    rcases hs : sTxt wM f n with e | z
    · rw [hs] at hP h
      obtain ⟨hB1, he⟩ : YB f n m0 d1 ∧ YE n e d1 := hP
      have g12 : up (up d1 0 10 0) 0 11 (d1 0 12) 0 12 = d1 0 12 := by rw [up_n (by omega), up_n (by omega)]
      have g13 : up (up d1 0 10 0) 0 11 (d1 0 12) 0 13 = d1 0 13 := by rw [up_n (by omega), up_n (by omega)]
      rw [g12, g13]
      refine br_f he.nle (h _ _ ⟨by rw [he.2.2], by rw [up_n (by omega), up_s]; rfl, by rw [up_s]; exact he.2.1, fun a u v => by rw [up_ne a u, up_ne a u]; exact hB1.2.2.2.2.2.1 a u v, fun j u v w => by rw [up_n (by omega), up_n (by omega)]; exact hB1.2.2.2.2.2.2 j u⟩)
    · obtain ⟨H, l⟩ := z
      have hall : allI H = true := by
        unfold sTxt sTot at hs
        split at hs
        · cases hs
        · split at hs
          · rename_i c; cases hs; exact c
          · cases hs
      rw [hs] at hP h
      obtain ⟨el, hl, hB1, z12, ⟨hh, hY⟩, ok⟩ : l' = nI l ∧ l ≤ 160 ∧ YB f n m0 d1 ∧ d1 0 12 = nI 0 ∧ (∃ h, Y2 d1 H h) ∧ OKw H := hP
      have g12 : up (up d1 0 10 0) 0 11 (d1 0 12) 0 12 = d1 0 12 := by rw [up_n (by omega), up_n (by omega)]
      rw [g12]
      refine br_t (by rw [z12]; exact nI_le (a := 0) (b := 0) (by omega) (by omega)) ?_
      generalize eg : up (up d1 0 10 0) 0 11 (d1 0 12) = d2
      have r2 : ∀ a, a ≠ 0 → d2 a = d1 a := fun a u => by rw [← eg, up_ne a u, up_ne a u]
      have r0 : ∀ j, j ≠ 10 → j ≠ 11 → d2 0 j = d1 0 j := fun j u v => by rw [← eg, up_n (by omega), up_n (by omega)]
      have r10 : d2 0 10 = nI 0 := by rw [← eg, up_n (by omega), up_s]; rfl
      have r11 : d2 0 11 = nI 0 := by rw [← eg, up_s]; exact z12
      clear eg
      rw [li_0]
      refine for_up (W := fun k d' => Ev SM MX5_text 135 [.ref 0, .int l', .int (nI k)] [] d' (rI q)) (I := fun k d' => (∀ a, a ≠ 1 → d' a = d2 a) ∧ (∀ j, 70 ≤ j → d' 1 j = d2 1 j) ∧ ∀ j, j < k → d' 1 j = d2 2 j) 70 ?_ ?_ 0 d2 (Nat.zero_le _) ⟨fun _ _ => rfl, fun _ _ => rfl, fun j hj => absurd hj (Nat.not_lt_zero j)⟩
      · rintro d3 ⟨i1, i2, i3⟩
        refine bk_X5_text_135 (br_t (nI_le (a := 70) (by omega) (by omega)) (nm_e (nm_e (nm_e (nm_e (nm_e (nm_e ?_)))))))
        have x0 : ∀ j, d3 0 j = d2 0 j := fun j => by rw [i1 0 (by omega)]
        obtain ⟨y1, y2, y3, y4, y5, y6, y7, y8⟩ := hY
        obtain ⟨o1, o2, o3, o4, o5, o6⟩ := id ok
        have x5 : d3 0 5 = nI (nT H) := by rw [x0, r0 5 (by omega) (by omega)]; exact y1
        have x6 : d3 0 6 = nI (nP H) := by rw [x0, r0 6 (by omega) (by omega)]; exact y2
        have x7 : d3 0 7 = nI (nB H) := by rw [x0, r0 7 (by omega) (by omega)]; exact y3
        rw [up_n (d := d3) (j := 1) (by omega), up_n (d := up d3 0 1 _) (j := 2) (by omega), up_n (d := d3) (j := 1) (by omega), x5, x6, x7]
        have rw1 : ∀ j, j < 70 → d3 1 j = d1 2 j := fun j hj => by rw [i3 j hj, r2 2 (by omega)]
        refine h _ _ ⟨el, hl, ?_, ?_, ?_, ?_, ?_, ?_, ok, hall, fun a u v => ?_, fun j u v w x y => ?_⟩
        · rw [up_ne 0 (by omega), up_ne 0 (by omega), up_n (by omega), up_n (by omega), up_n (by omega), up_n (by omega), x0]; exact r10
        · rw [up_ne 0 (by omega), up_ne 0 (by omega), up_n (by omega), up_n (by omega), up_n (by omega), up_n (by omega), x0]; exact r11
        · rw [up_ne 0 (by omega), up_ne 0 (by omega), up_s]; rfl
        · rw [up_n (by omega), up_s]; rfl
        · rw [up_s]; rfl
        · refine ⟨?_, ?_, ?_, fun t ht => ?_, fun p hp => ?_, fun q hq => ?_⟩
          · rw [up_ne 0 (by omega), up_ne 0 (by omega), up_n (by omega), up_n (by omega), up_n (by omega), up_s]
          · rw [up_ne 0 (by omega), up_ne 0 (by omega), up_n (by omega), up_n (by omega), up_s]
          · rw [up_ne 0 (by omega), up_ne 0 (by omega), up_n (by omega), up_s]
          · have ht : t < nT H := ht
            obtain ⟨b1, b2, b3, b4, b5⟩ := y4 t ht
            have h88 := (o4 t ht).2.2.1
            rw [up_ne 1 (by omega), up_ne 1 (by omega), up_ne 1 (by omega), up_ne 1 (by omega), up_ne 1 (by omega), up_ne 1 (by omega)]
            refine ⟨?_, ?_, ?_, ?_, fun i hi => ?_⟩
            rotate_left 4
            · have hi : i < H 1 t := hi
              rw [Nat.zero_add, rw1 _ (by omega)]; exact b5 i hi
            · rw [Nat.zero_add, rw1 _ (by omega)]; exact b1
            · rw [Nat.zero_add, rw1 _ (by omega)]; exact b2
            · rw [Nat.zero_add, rw1 _ (by omega)]; exact b3
            · rw [Nat.zero_add, rw1 _ (by omega)]; exact b4
          · have hp : p < nP H := hp
            obtain ⟨b1, b2, b3, b4⟩ := y5 p hp
            rw [up_ne 1 (by omega), up_ne 1 (by omega), up_ne 1 (by omega), up_ne 1 (by omega), up_ne 1 (by omega), up_ne 1 (by omega)]
            refine ⟨?_, ?_, ?_, ?_⟩
            · rw [Nat.zero_add, rw1 _ (by omega)]; exact b1
            · rw [Nat.zero_add, rw1 _ (by omega)]; exact b2
            · rw [Nat.zero_add, rw1 _ (by omega)]; exact b3
            · rw [Nat.zero_add, rw1 _ (by omega)]; exact b4
          · have hq : q < nB H := hq
            rw [up_ne 1 (by omega), up_ne 1 (by omega), up_ne 1 (by omega), up_ne 1 (by omega), up_ne 1 (by omega), up_ne 1 (by omega), Nat.zero_add, rw1 _ (by omega)]
            exact y6 q hq
        · rw [up_ne a (by omega), up_ne a (by omega), up_ne a (by omega), up_ne a (by omega), up_ne a (by omega), up_ne a (by omega), i1 a (by omega), r2 a (by omega)]
          exact hB1.2.2.2.2.2.1 a (by omega) (by omega)
        · rw [up_ne 0 (by omega), up_ne 0 (by omega), up_n (by omega), up_n (by omega), up_n (by omega), up_n (by omega), x0, r0 j (by omega) (by omega)]
          exact hB1.2.2.2.2.2.2 j u
      · rintro k d3 hk ⟨i1, i2, i3⟩ ih
        refine bk_X5_text_135 (br_f (fun z => absurd ((nI_leI (a := 70) (by omega) (by omega)).mp z) (by omega)) ⟨vp_in_nI (by omega) (by omega), vp_in_nI (by omega) (by omega), nm_e ?_⟩)
        rw [nI_clamp (by omega), nI_1]
        refine ih _ ⟨fun a u => by rw [up_ne a u]; exact i1 a u, fun j hj => by rw [up_n (by omega)]; exact i2 j hj, fun j hj => ?_⟩
        by_cases c : j = k
        · subst c; rw [up_s, i1 2 (by omega)]
        · rw [up_n (by omega)]; exact i3 j (by omega)
  rw [li_0]
  refine for_up (W := fun k d' => Ev SM MX5_text 34 [.ref 0, .int (nI 0), .int (nI k)] [] d' (rI q)) (I := fun k d' => ∀ a, a ≠ 2 → d' a = d a) 70 ?_ ?_ 0 d (Nat.zero_le _) (fun _ _ => rfl)
  · intro d1 i1
    have r0 : ∀ j, d1 0 j = d 0 j := fun j => by rw [i1 0 (by omega)]
    have hB3 : YB f n m0 d1 := hB2.put (fun a u v => i1 a v) (fun j hj => r0 j)
    refine bk_X5_text_34 (br_t (nI_le (a := 70) (by omega) (by omega)) (M_stepS (σ := .inr 0) ⟨hB3, Nat.zero_le _, by rw [r0]; exact e12, by rw [r0]; exact e14⟩ (fun d2 s2 t2 => ?_)))
    have hY : Y2 d2 Hnil 0 := by
      refine ⟨?_, ?_, ?_, fun t ht => absurd ht (Nat.not_lt_zero t), fun t ht => absurd ht (Nat.not_lt_zero t), fun t ht => absurd ht (Nat.not_lt_zero t), ?_, fun t ht => absurd ht (Nat.not_lt_zero t), fun t ht => absurd ht (Nat.not_lt_zero t), Nat.zero_le _, fun b _ _ => Nat.zero_le _⟩
      · rw [t2.2 5 (by omega), r0]; exact e5
      · rw [t2.2 6 (by omega), r0]; exact e6
      · rw [t2.2 7 (by omega), r0]; exact e7
      · rw [t2.2 8 (by omega), r0]; exact e8
    exact M_all_57 161 0 Hnil 0 0 d2 (by omega) (by omega) s2 hY OKw_nil (k105 _)
  · intro k d1 hk i1 ih
    refine bk_X5_text_34 (br_f (fun z => absurd ((nI_leI (a := 70) (by omega) (by omega)).mp z) (by omega)) ⟨vp_in_nI (by omega) (by omega), nm_e ?_⟩)
    rw [nI_1]
    exact ih _ (fun a u => by rw [up_ne a u]; exact i1 a u)
end
section
/-! ===== both readings side by side: they differ in a 9th note's FAULT at most ===== -/
def RWs {α : Type} (a b : Sum (Nat × Nat) α) : Prop := match a with
  | .inr x => b = .inr x
  | .inl e => ∃ c, b = .inl (c, e.2) ∧ (c = e.1 ∨ (e.1 = 3 ∧ c = 5))
theorem RWs.rf {α : Type} {a : Sum (Nat × Nat) α} : RWs a a := by
  cases a with
  | inl e => exact ⟨e.1, rfl, Or.inl rfl⟩
  | inr x => rfl
theorem RWs_rB {α : Type} {g g' : Nat → Sum (Nat × Nat) α} {s : Sg} (h : ∀ i, RWs (g i) (g' i)) : RWs (rB g s) (rB g' s) := by
  cases s with
  | inl e => exact RWs.rf
  | inr i => exact h i
theorem RWs_nt {f : Nat → Nat} {n : Nat} : ∀ r c i g, RWs (sNt wX f n r c i g) (sNt wM f n r c i g) := by
  intro r
  induction r with
  | zero => intro c i g; exact RWs.rf
  | succ r ih =>
    intro c i g
    rw [sNt, sNt]
    by_cases c2 : tK f n i = 2
    · rw [if_pos c2, if_pos c2]
      by_cases c8 : c = 8
      · rw [if_pos c8, if_pos c8]
        refine ⟨5, rfl, ?_⟩
        show 5 = wX (tV f n i) ∨ (wX (tV f n i) = 3 ∧ 5 = 5)
        unfold wX
        split
        · exact Or.inl rfl
        · exact Or.inr ⟨rfl, rfl⟩
      · rw [if_neg c8, if_neg c8]
        by_cases z : tV f n i ≤ 9
        · rw [if_pos z, if_pos z]; exact ih _ _ _
        · rw [if_neg z, if_neg z]; exact RWs.rf
    · rw [if_neg c2, if_neg c2]; exact RWs.rf
theorem RWs_tu {f : Nat → Nat} {n i k : Nat} {H : HH} : RWs (rTu wX f n i k H) (rTu wM f n i k H) := by
  unfold rTu
  refine RWs_rB fun i1 => RWs_rB fun i2 => RWs_rB fun i3 => ?_
  have h := RWs_nt (f := f) (n := n) 8 1 i3 (g0 (tV f n i2))
  rcases z : sNt wX f n 8 1 i3 (g0 (tV f n i2)) with e | y
  · rw [z] at h
    obtain ⟨c, e1, e2⟩ := h
    rw [e1]
    exact ⟨c, rfl, e2⟩
  · rw [z] at h
    have h : sNt wM f n 8 1 i3 (g0 (tV f n i2)) = .inr y := h
    rw [h]
    exact RWs.rf
theorem RWs_if {α : Type} {p : Prop} [Decidable p] {a b a' b' : Sum (Nat × Nat) α} (h1 : RWs a a') (h2 : RWs b b') : RWs (if p then a else b) (if p then a' else b') := by
  split
  · exact h1
  · exact h2
theorem RWs_ln {f : Nat → Nat} {n i : Nat} {H : HH} : RWs (sLn wX f n i H) (sLn wM f n i H) := by
  unfold sLn
  exact RWs_if RWs.rf (RWs_if (RWs_if RWs_tu RWs.rf) (RWs_if (RWs_if RWs_tu RWs.rf) (RWs_if (RWs_if RWs_tu RWs.rf) (RWs_if (RWs_if RWs_tu RWs.rf) (RWs_if RWs.rf (RWs_if RWs.rf RWs.rf))))))
theorem RWs_all {f : Nat → Nat} {n : Nat} : ∀ r i H l, RWs (sAll wX f n r i H l) (sAll wM f n r i H l) := by
  intro r
  induction r with
  | zero => intro i H l; exact RWs.rf
  | succ r ih =>
    intro i H l
    rw [sAll, sAll]
    by_cases c0 : tK f n i = 0
    · rw [if_pos c0, if_pos c0]; exact RWs.rf
    · rw [if_neg c0, if_neg c0]
      have h := RWs_ln (f := f) (n := n) (i := i) (H := H)
      rcases z : sLn wX f n i H with e | y
      · rw [z] at h
        obtain ⟨c, e1, e2⟩ := h
        rw [e1]
        exact ⟨c, rfl, e2⟩
      · rw [z] at h
        have h : sLn wM f n i H = .inr y := h
        rw [h]
        exact ih _ _ _
theorem RWs_txt {f : Nat → Nat} {n : Nat} : RWs (sTxt wX f n) (sTxt wM f n) := by
  unfold sTxt
  have h := RWs_all (f := f) (n := n) 161 0 Hnil 0
  rcases z : sAll wX f n 161 0 Hnil 0 with e | y
  · rw [z] at h
    obtain ⟨c, e1, e2⟩ := h
    rw [e1]
    exact ⟨c, rfl, e2⟩
  · rw [z] at h
    have h : sAll wM f n 161 0 Hnil 0 = .inr y := h
    rw [h]
    exact RWs.rf
theorem OKw.okh {H : HH} (h : OKw H) (ha : allI H = true) : OKH H := by
  obtain ⟨o1, o2, o3, o4, o5, o6⟩ := h
  obtain ⟨a1, a2⟩ := allI_r ha
  exact ⟨o1, o2, o3, o4, fun p hp => ⟨(o5 p hp).1, (o5 p hp).2.1, (o5 p hp).2.2.1, (o5 p hp).2.2.2.1, a1 p hp⟩, a2⟩
/-- what text() leaves of the class -/
def PXt (x0 : DD) (R : Sum (Nat × Nat) (HH × Nat)) (r : Int32) (d : DD) : Prop := match R with
  | .inl e => r = (-10) - nI e.2 ∧ d 36 1 = nI 0 ∧ d 36 2 = nI e.1 ∧ ∀ a, a ≠ 36 → (a < 12 ∨ 22 < a) → d a = x0 a
  | .inr z => r = nI z.2 ∧ d 36 1 = nI 0 ∧ d 36 2 = nI 0 ∧ d 0 11 = nI 0 ∧ d 35 0 = nI 0 ∧ d 35 1 = nI 0 ∧ XH 1 d z.1 ∧ (∀ j, j ≠ 11 → d 0 j = x0 0 j) ∧ ∀ a, a ≠ 0 → a ≠ 35 → a ≠ 36 → 22 < a → d a = x0 a
theorem m10_lt {p : Nat} (h : p ≤ 160) : (-10 : Int32) - nI p < 0 := by
  have e : ((-10 : Int32) - nI p).toInt = -10 - (p : Int) := by
    rw [Int32.toInt_sub, nI_toInt (by omega), show ((-10 : Int32)).toInt = -10 from by decide]
    exact Int.bmod_eq_of_le (by omega) (by omega)
  rw [i_lt, e, show ((0 : Int32)).toInt = 0 from rfl]
  omega
theorem sTot_all {w : Nat → Nat} {f : Nat → Nat} {n : Nat} {z : HH × Nat} (h : sTxt w f n = .inr z) : allI z.1 = true := by
  unfold sTxt sTot at h
  split at h
  · cases h
  · split at h
    · rename_i c; cases h; exact c
    · cases h
theorem X_text {q : Int32 → DD → Prop} {x0 : DD} {f : Nat → Nat} {n : Nat} (hB : XB f n x0 x0) (h : ∀ r d', PXt x0 (sTxt wX f n) r d' → q r d') : Cn SX MX4_text [.ref 0] x0 (rI q) := by
  have hn := hB.1
  refine cn_X4_text (X_tellAll hB (fun r d1 hP => nm_e ?_))
  rcases hs : sTxt wX f n with e | ⟨H, l⟩
  · rw [hs] at hP h
    obtain ⟨er, hB1, hF⟩ : r = (-10) - nI e.2 ∧ XB f n x0 d1 ∧ FO n (some e) d1 := hP
    obtain ⟨k1, k2, k3⟩ : okE n e ∧ d1 36 2 = nI e.1 ∧ d1 36 3 = nI e.2 := hF
    refine br_t (by rw [er]; exact m10_lt (by have := k1.2.2; omega)) (h r _ ⟨er, up_s, by rw [up_n (by omega)]; exact k2, fun a u v => by rw [up_ne a u]; exact hB1.2.2.2.2 a u v⟩)
  · have hall := sTot_all hs
    rw [hs] at hP h
    obtain ⟨er, hl, hB1, hF, hX, ok⟩ : r = nI l ∧ l ≤ 160 ∧ XB f n x0 d1 ∧ FO n none d1 ∧ XH 12 d1 H ∧ OKw H := hP
    have okh := ok.okh hall
    refine br_f (by rw [er]; exact fun z => absurd ((nI_ltI (b := 0) (by omega) (by omega)).mp z) (by omega)) (X_becomeH isH1 isH12 (by omega) (hX.kept (fun a b1 b2 => up_ne a (by omega))) okh (fun d2 g1 g2 => nm_e ?_))
    have e2 : d1 36 2 = nI 0 := hF
    generalize eg : up d2 0 11 0 = d3
    have r36 : ∀ j, d3 36 j = up d1 36 1 0 36 j := fun j => by rw [← eg, up_ne 36 (by omega), g1 36 (by omega)]
    have r0 : d3 0 11 = nI 0 := by rw [← eg, up_s]; rfl
    have r0n : ∀ j, j ≠ 11 → d3 0 j = x0 0 j := fun j hj => by rw [← eg, up_n (by omega), g1 0 (by omega), up_ne 0 (by omega), hB1.2.2.2.2 0 (by omega) (by omega)]
    have ra : ∀ a, a ≠ 0 → a ≠ 36 → 22 < a → d3 a = x0 a := fun a u v w => by rw [← eg, up_ne a u, g1 a (by omega), up_ne a v, hB1.2.2.2.2 a v (Or.inr w)]
    have rX : XH 1 d3 H := by rw [← eg]; exact g2.kept (fun a b1 b2 => up_ne a (by omega))
    clear eg
    rw [li_0]
    refine for_up (W := fun k d' => Ev SX MX4_text 42 [.ref 0, .int r, .int (nI k)] [] d' (rI q)) (I := fun k d' => (∀ a, a ≠ 35 → d' a = d3 a) ∧ ∀ j, j < k → d' 35 j = nI 0) 2 ?_ ?_ 0 d3 (Nat.zero_le _) ⟨fun _ _ => rfl, fun j hj => absurd hj (Nat.not_lt_zero j)⟩
    · rintro d4 ⟨i1, i2⟩
      refine bk_X4_text_42 (br_t (nI_le (a := 2) (by omega) (by omega)) (h r d4 ⟨er, ?_, ?_, ?_, i2 0 (by omega), i2 1 (by omega), rX.kept (fun a b1 b2 => i1 a (by omega)), fun j hj => ?_, fun a u v w x => ?_⟩))
      · rw [i1 36 (by omega), r36, up_s]; rfl
      · rw [i1 36 (by omega), r36, up_n (by omega)]; exact e2
      · rw [i1 0 (by omega)]; exact r0
      · rw [i1 0 (by omega)]; exact r0n j hj
      · rw [i1 a v]; exact ra a u w x
    · rintro k d4 hk ⟨i1, i2⟩ ih
      refine bk_X4_text_42 (br_f (fun z => absurd ((nI_leI (a := 2) (by omega) (by omega)).mp z) (by omega)) ⟨vp_in_nI (by omega) (by omega), nm_e ?_⟩)
      rw [nI_clamp (by omega), nI_1]
      refine ih _ ⟨fun a u => by rw [up_ne a u]; exact i1 a u, fun j hj => ?_⟩
      by_cases c : j = k
      · subst c; rw [up_s]; rfl
      · rw [up_n (by omega)]; exact i2 j (by omega)
theorem two_text {x m : DD} {H : HH} (hR : RelH H x m) : Two MX4_text MX5_text [.ref 0] x m := by
  obtain ⟨ok, hX, hM, hO⟩ := id hR
  obtain ⟨n, n160, x1, m10, hrow⟩ := hO.1
  obtain ⟨-, b2, b3, b4, b5, b6, b7, b8⟩ := id hO
  -- the tape
  have hf : ∀ i, i < n → x 37 i = nI ((x 37 i).toNatClampNeg) ∧ (x 37 i).toNatClampNeg ≤ 127 := by
    intro i hi
    obtain ⟨-, c, hc, ec⟩ := hrow i hi
    rw [ec, nI_clamp (by omega)]
    exact ⟨rfl, hc⟩
  have hXB : XB (fun i => (x 37 i).toNatClampNeg) n x x := ⟨n160, fun i hi => (hf i hi).2, x1, fun i hi => (hf i hi).1, fun _ _ _ => rfl⟩
  have hYB : YB (fun i => (x 37 i).toNatClampNeg) n m m := ⟨n160, fun i hi => (hf i hi).2, m10, fun i hi => by rw [← (hrow i hi).1]; exact (hf i hi).1, b5, fun _ _ _ => rfl, fun _ _ => rfl⟩
  generalize (fun i => (x 37 i).toNatClampNeg) = f at hXB hYB
  have hw := RWs_txt (f := f) (n := n)
  rcases hs : sTxt wX f n with e | ⟨H', l⟩
  · rw [hs] at hw
    obtain ⟨c, e1, e2⟩ := hw
    refine ⟨(-10) - nI e.2, fun d => PXt x (.inl e) ((-10) - nI e.2) d, fun d => PMt m (.inl (c, e.2)) ((-10) - nI e.2) d, X_text hXB (fun r d hp => ?_), M_text hYB (fun r d hp => ?_), ?_⟩
    · rw [hs] at hp
      have er : r = (-10) - nI e.2 := hp.1
      subst er
      exact ⟨rfl, hp⟩
    · rw [e1] at hp
      have er : r = (-10) - nI e.2 := hp.1
      subst er
      exact ⟨rfl, hp⟩
    · rintro d d' ⟨-, p1, p2, p3⟩ ⟨-, q1, q2, q3, q4⟩
      have z0 : ∀ j, ¬ frJ j → j ≠ 10 → j ≠ 11 → d' 0 j = m 0 j := q4
      refine RelH.rel (H := H) ⟨ok, hX.kept (fun a u v => p3 a (by omega) (by omega)), hM.kept (fun j u v => z0 j (by unfold frJ; omega) (by omega) (by omega)) (fun j _ _ => by rw [q3 1 (by omega) (by omega)]) ok, ⟨0, (by omega), p1, q1, fun i hi => absurd hi (Nat.not_lt_zero i)⟩, b2.k (by rw [p3 0 (by omega) (by omega)]) (p3 49 (by omega) (by omega)) (p3 50 (by omega) (by omega)) (p3 51 (by omega) (by omega)) (z0 28 (by unfold frJ; omega) (by omega) (by omega)) (q3 12 (by omega) (by omega)), fun k hk => (b3 k hk).k (by rw [p3 35 (by omega) (by omega)]) (fun a u v => p3 a (by omega) (by omega)) (by rw [q3 13 (by omega) (by omega)]) (fun j u v => z0 j (by unfold frJ; omega) (by omega) (by omega)) (fun j u v => by rw [q3 1 (by omega) (by omega)]), fun k hk => (b4 k hk).k (p3 _ (by omega) (by omega)) (p3 _ (by omega) (by omega)) (by rw [q3 14 (by omega) (by omega)]) (by rw [q3 15 (by omega) (by omega)]) (fun j _ => by rw [q3 16 (by omega) (by omega)]), b5.k (q3 4 (by omega) (by omega)) (q3 5 (by omega) (by omega)), ?_, ?_, ?_⟩
      · rw [z0 26 (by unfold frJ; omega) (by omega) (by omega)]; exact b6
      · rw [p2, q2]
        rcases e2 with e2 | ⟨e2, e3⟩
        · exact Or.inl (by rw [e2])
        · exact Or.inr ⟨by rw [e2], by rw [e3]⟩
      · rw [p3 0 (by omega) (by omega), z0 34 (by unfold frJ; omega) (by omega) (by omega)]; exact b8
  · have hall := sTot_all hs
    rw [hs] at hw
    have e1 : sTxt wM f n = .inr (H', l) := hw
    refine ⟨nI l, fun d => PXt x (.inr (H', l)) (nI l) d, fun d => PMt m (.inr (H', l)) (nI l) d, X_text hXB (fun r d hp => ?_), M_text hYB (fun r d hp => ?_), ?_⟩
    · rw [hs] at hp
      have er : r = nI l := hp.1
      subst er
      exact ⟨rfl, hp⟩
    · rw [e1] at hp
      have er : r = nI l := hp.1
      subst er
      exact ⟨rfl, hp⟩
    · rintro d d' ⟨-, p1, p2, p3, p4, p5, p6, p7, p8⟩ ⟨-, -, q1, q2, q3, q4, q5, q6, q7, q8, q9, q10⟩
      refine RelH.rel (H := H') ⟨q7.okh hall, p6, q6, ⟨0, (by omega), p1, q1, fun i hi => absurd hi (Nat.not_lt_zero i)⟩, ⟨0, (by omega), p3, q3, fun i hi => absurd hi (Nat.not_lt_zero i)⟩, fun k hk => Or.inl ?_, fun k hk => (b4 k hk).k (p8 _ (by omega) (by omega) (by omega) (by omega)) (p8 _ (by omega) (by omega) (by omega) (by omega)) (by rw [q9 14 (by omega) (by omega)]) (by rw [q9 15 (by omega) (by omega)]) (fun j _ => by rw [q9 16 (by omega) (by omega)]), b5.k (q9 4 (by omega) (by omega)) (q9 5 (by omega) (by omega)), ?_, ?_, ?_⟩
      · rcases (show k = 0 ∨ k = 1 by omega) with rfl | rfl
        · exact ⟨p4, q4⟩
        · exact ⟨p5, q5⟩
      · rw [q10 26 (by unfold frJ; omega) (by omega) (by omega) (by omega) (by omega)]; exact b6
      · rw [p2, q2]; exact Or.inl rfl
      · rw [p7 12 (by omega), q10 34 (by unfold frJ; omega) (by omega) (by omega) (by omega) (by omega)]; exact b8
end
