/-! ===== the class's playing ===== -/
/-- cells 38 to 47 are the playing's -/
def XF (d d' : DD) : Prop := ∀ a, a < 38 ∨ 47 < a → d' a = d a
theorem XF.rf {d : DD} : XF d d := fun _ _ => rfl
theorem XF.tr {d d' d2 : DD} (h : XF d d') (h2 : XF d' d2) : XF d d2 := fun a ha => (h2 a ha).trans (h a ha)
theorem XF.up {d d' : DD} {c j : Nat} {v : Int32} (h : XF d d') (h1 : 38 ≤ c) (h2 : c ≤ 47) : XF d (up d' c j v) := fun a ha => (up_ne a (by omega)).trans (h a ha)
theorem isH_out {b : Nat} (h : isH b) : b + 10 < 38 ∨ 47 < b := by unfold isH at h; omega
theorem XH.xf {b : Nat} {d d' : DD} {H : HH} (h : XH b d H) (Hb : isH b) (e : XF d d') : XH b d' H := h.kept (fun a h1 h2 => e a (by have := isH_out Hb; omega))
def hv (n : Nat) : Int32 := if n = 0 then -1 else nI (n - 1)
theorem hv_0 : hv 0 = -1 := rfl
theorem hv_s (n : Nat) : hv (n + 1) = nI n := by unfold hv; rw [if_neg (by omega)]; rfl
theorem hv_m1 {n : Nat} (h : n < 2 ^ 30) : hv n = -1 ↔ n = 0 := by
  constructor
  · intro e
    cases n with
    | zero => rfl
    | succ n => rw [hv_s] at e; exact absurd e (ne_m1 (by omega))
  · intro e; rw [e]; rfl
theorem hv_inj {a b : Nat} (ha : a < 2 ^ 30) (hb : b < 2 ^ 30) (h : hv a = hv b) : a = b := by
  cases a with
  | zero => exact ((hv_m1 hb).mp h.symm).symm
  | succ a =>
    cases b with
    | zero => exact (hv_m1 ha).mp h
    | succ b => rw [hv_s, hv_s] at h; have := nI_inj (by omega) (by omega) h; omega
/-- how many tunes are not over -/
def aliveN (P : PL) (n : Nat) : Nat := sumN (fun t => if P 0 t = 0 then 1 else 0) n
/-- the rows written out -/
def XR (d : DD) (H : HH) : Prop := ∀ t, t < nT H → d 45 t = nI (rowL (H 0 t) (H 1 t)) ∧ d 46 t = nI (lenO H t) ∧ ∀ i, i < rowL (H 0 t) (H 1 t) → d 47 (16 * t + i) = nI (noteN H t (H 0 t) i)
/-- a playing's numbers, the first hn tunes heard in this minute -/
def XP (hn : Nat) (d : DD) (H : HH) (P : PL) : Prop := (∀ t, t < nT H → d 39 t = hv (P 0 t) ∧ (P 0 t ≠ 0 → d 40 t = nI (P 1 t)) ∧ d 41 t = nI (P 2 t)) ∧ (∀ p, p < nP H → d 42 p = nI (P 4 p) ∧ d 43 p = nI (P 3 p)) ∧ (∀ t, t < hn → t < nT H → d 44 t = hv (P 5 t)) ∧ d 38 9 = nI (aliveN P (nT H)) ∧ XR d H
theorem alive_fin {P : PL} {m w : Nat} : ∀ {n t : Nat}, t < n → P 0 t = 0 → aliveN (finS P t m w) n + 1 = aliveN P n := by
  intro n
  induction n with
  | zero => intro t h; exact absurd h (Nat.not_lt_zero t)
  | succ n ih =>
    intro t ht e
    show aliveN (finS P t m w) n + (if finS P t m w 0 n = 0 then 1 else 0) + 1 = aliveN P n + (if P 0 n = 0 then 1 else 0)
    by_cases h : t = n
    · subst h
      have h1 : finS P t m w 0 t = m + 1 := by simp [finS, pu_rd]
      have h2 : aliveN (finS P t m w) t = aliveN P t := sumN_cong (fun i hi => by
        have : finS P t m w 0 i = P 0 i := by simp [finS, pu_rd]; omega
        rw [this])
      rw [h1, h2, e]; simp
    · have h1 : finS P t m w 0 n = P 0 n := by simp [finS, pu_rd]; omega
      rw [h1]
      have := ih (t := t) (by omega) e
      omega
theorem alive_cong {P P' : PL} {n : Nat} (h : ∀ t, t < n → P 0 t = P' 0 t) : aliveN P n = aliveN P' n := sumN_cong (fun i hi => by rw [h i hi])
theorem alive_le (P : PL) (n : Nat) : aliveN P n ≤ n := by
  have := sumN_le (f := fun t => if P 0 t = 0 then 1 else 0) (c := 1) (n := n) (fun i _ => by split <;> omega)
  unfold aliveN
  omega
theorem alive_0 {P : PL} : ∀ {n : Nat}, aliveN P n = 0 → ∀ t, t < n → P 0 t ≠ 0 := by
  intro n
  induction n with
  | zero => intro _ t h; exact absurd h (Nat.not_lt_zero t)
  | succ n ih =>
    intro h t ht
    have h : aliveN P n + (if P 0 n = 0 then 1 else 0) = 0 := h
    by_cases e : t = n
    · subst e; intro z; rw [if_pos z] at h; omega
    · exact ih (by omega) t (by omega)
theorem X_finish {q : DD → Prop} {d : DD} {t m w hn : Nat} {H : HH} {P : PL} (ok : OKH H) (hP : XP hn d H P) (ht : t < nT H) (ha : P 0 t = 0) (hm : m < 2 ^ 30) (hw : w < 2 ^ 30) (h : ∀ d', XF d d' → XP hn d' H (finS P t m w) → (∀ j, d' 44 j = d 44 j) → q d') : Cn SX MX1_finish [.ref 38, .int (nI t), .int (nI m), .int (nI w)] d (rV q) := by
  have o4 := ok.t4
  refine cn_X1_finish ⟨vp_in_nI (by omega) (by omega), nm_e ⟨vp_in_nI (by omega) (by omega), nm_e (nm_e ?_)⟩⟩
  rw [nI_clamp (by omega)]
  obtain ⟨h1, h2, h3, h4, h5⟩ := hP
  have h38 : up (up d 39 t (nI m)) 40 t (nI w) 38 9 = nI (aliveN P (nT H)) := by rw [up_n (by omega), up_n (by omega)]; exact h4
  rw [h38]
  have hal := alive_fin (m := m) (w := w) ht ha
  refine h _ (((XF.rf.up (by omega) (by omega)).up (by omega) (by omega)).up (by omega) (by omega)) ⟨fun t' ht' => ?_, fun p hp => ?_, fun t' h6 ht' => ?_, ?_, fun t' ht' => ?_⟩ (fun j => ?_)
  · obtain ⟨a1, a2, a3⟩ := h1 t' ht'
    by_cases e : t' = t
    · subst e; simp [up_rd, finS, pu_rd, hv_s, a3]
    · simp [up_rd, finS, pu_rd, e, a1, a3]
      exact a2
  · obtain ⟨a1, a2⟩ := h2 p hp
    rw [up_n (by omega), up_n (by omega), up_n (by omega), up_n (by omega), up_n (by omega), up_n (by omega)]
    simp [finS, pu_rd, a1, a2]
  · rw [up_n (by omega), up_n (by omega), up_n (by omega), h3 t' h6 ht']
    simp [finS, pu_rd]
  · rw [up_s, li_1, pk_sub (by omega)]
    congr 1
    omega
  · obtain ⟨a1, a2, a3⟩ := h5 t' ht'
    refine ⟨?_, ?_, fun i hi => ?_⟩
    · rw [up_n (by omega), up_n (by omega), up_n (by omega)]; exact a1
    · rw [up_n (by omega), up_n (by omega), up_n (by omega)]; exact a2
    · rw [up_n (by omega), up_n (by omega), up_n (by omega)]; exact a3 i hi
  · rw [up_n (by omega), up_n (by omega), up_n (by omega)]
theorem X_playerOf {q : Int32 → DD → Prop} {d : DD} {b t hn : Nat} {H : HH} {P : PL} (Hb : isH b) (hX : XH b d H) (ok : OKH H) (hP : XP hn d H P) (hB : ∀ p, p < nP H → P 3 p < 2 ^ 30) (ht : t < nT H) (h1 : playerS H P t < nP H → q (nI (playerS H P t)) d) (h0 : playerS H P t = nP H → q (-1) d) : Cn SX MX1_playerOf [.ref 38, .ref b, .int (nI t)] d (rI q) := by
  have o4 := ok.p4
  have ot4 := ok.t4
  refine cn_X1_playerOf Hb ?_
  rw [li_0]
  have key := for_up (W := fun k d' => Ev SX MX1_playerOf 2 [.ref 38, .ref b, .int (nI t), .int (nI k)] [] d' (rI q)) (I := fun k d' => d' = d ∧ ∀ j, j < k → decide (H 8 j = t ∧ 0 < P 3 j) = false) (nP H) ?_ ?_ 0 d (Nat.zero_le _) ⟨rfl, fun j h => absurd h (Nat.not_lt_zero j)⟩
  · exact key
  · rintro d' ⟨rfl, hno⟩
    refine bk_X1_playerOf_2 Hb ⟨fun _ => h0 (first_none hno), fun c => absurd ?_ c⟩
    rw [hX.np]; exact nI_le (Nat.le_refl _) (by omega)
  · rintro k d' hk ⟨rfl, hno⟩ ih
    refine bk_X1_playerOf_2 Hb ⟨fun c => ?_, fun _ => ⟨vp_in_nI (by omega) (by omega), ?_⟩⟩
    · rw [hX.np] at c; exact absurd ((nI_leI (by omega) (by omega)).mp c) (by omega)
    · have hat := (ok.pp hk).2.2.2.2
      rw [nI_clamp (by omega), hX.at hk, (hP.2.1 k hk).2, nI_1]
      have hnext : decide (H 8 k = t ∧ 0 < P 3 k) = false → Ev SX MX1_playerOf 2 [.ref 38, .ref b, .int (nI t), .int (nI (k + 1))] [] d' (rI q) := fun hf => ih d' ⟨rfl, fun j hj => by
        rcases Nat.lt_or_ge j k with z | z
        · exact hno j z
        · have : j = k := by omega
          rw [this]; exact hf⟩
      refine ⟨fun c => hnext ?_, fun c => ⟨vp_in_nI (by omega) (by omega), fun c2 => hnext ?_, fun c2 => ?_⟩⟩
      · simp only [decide_eq_false_iff_not]
        exact fun z => c (by rw [z.1])
      · have c2 := (nI_leI (b := 0) (by have := hB k hk; omega) (by omega)).mp c2
        simp only [decide_eq_false_iff_not]; omega
      · have c2 := mt (nI_leI (b := 0) (by have := hB k hk; omega) (by omega)).mpr c2
        have c := nI_inj (by omega) (by omega) c
        have e : playerS H P t = k := first_is hk (by simp only [decide_eq_true_eq]; omega) hno
        rw [e] at h1
        exact h1 hk
theorem X_crossThird {q : DD → Prop} {d : DD} {b a c0 m : Nat} {H : HH} {P : PL} (Hb : isH b) (hX : XH b d H) (ok : OKH H) (hP : XP (nT H) d H P) (h5 : ∀ t, t < nT H → P 5 t ≤ 10) (hov : ∀ t, t < nT H → P 0 t < 2 ^ 30) (ha : a < nT H) (hc : c0 < nT H) (hm : m < 160) (h : ∀ d', XF d d' → XP (nT H) d' H (if thirdS H P a c0 < nT H then finS P (thirdS H P a c0) m 3 else P) → q d') : Cn SX MX1_crossThird [.ref 38, .ref b, .int (nI a), .int (nI c0), .int (nI m)] d (rV q) := by
  have ot4 := ok.t4
  refine cn_X1_crossThird Hb ?_
  rw [li_0]
  refine for_up (W := fun k d' => Ev SX MX1_crossThird 3 [.ref 38, .ref b, .int (nI a), .int (nI c0), .int (nI m), .int (nI k)] [] d' (rV q)) (I := fun k d' => d' = d ∧ ∀ j, j < k → decide (j ≠ a ∧ j ≠ c0 ∧ P 5 j ≠ 0 ∧ P 0 j = 0) = false) (nT H) ?_ ?_ 0 d (Nat.zero_le _) ⟨rfl, fun j h => absurd h (Nat.not_lt_zero j)⟩
  · rintro d' ⟨rfl, hno⟩
    refine bk_X1_crossThird_3 Hb ⟨fun _ => h d' XF.rf ?_, fun c => absurd ?_ c⟩
    · have e : thirdS H P a c0 = nT H := first_none hno
      rw [if_neg (by omega)]; exact hP
    · rw [hX.nt]; exact nI_le (Nat.le_refl _) (by omega)
  · rintro k d' hk ⟨rfl, hno⟩ ih
    refine bk_X1_crossThird_3 Hb ⟨fun c => ?_, fun _ => ?_⟩
    · rw [hX.nt] at c; exact absurd ((nI_leI (by omega) (by omega)).mp c) (by omega)
    · rw [nI_1, nI_clamp (by omega), hP.2.2.1 k hk hk, (hP.1 k hk).1]
      have hnext : decide (k ≠ a ∧ k ≠ c0 ∧ P 5 k ≠ 0 ∧ P 0 k = 0) = false → Ev SX MX1_crossThird 3 [.ref 38, .ref b, .int (nI a), .int (nI c0), .int (nI m), .int (nI (k + 1))] [] d' (rV q) := fun hf => ih d' ⟨rfl, fun j hj => by
        rcases Nat.lt_or_ge j k with z | z
        · exact hno j z
        · have : j = k := by omega
          rw [this]; exact hf⟩
      have hk5 := h5 k hk
      have hk0 := hov k hk
      refine ⟨fun c => hnext ?_, fun c => ⟨fun c2 => hnext ?_, fun c2 => ⟨vp_in_nI (by omega) (by omega), fun c3 => hnext ?_, fun c3 => ⟨vp_in_nI (by omega) (by omega), fun c4 => hnext ?_, fun c4 => ?_⟩⟩⟩⟩
      · have := nI_inj (by omega) (by omega) c
        simp only [decide_eq_false_iff_not]; omega
      · have := nI_inj (by omega) (by omega) c2
        simp only [decide_eq_false_iff_not]; omega
      · have := (hv_m1 (by omega)).mp c3
        simp only [decide_eq_false_iff_not]; omega
      · have := mt (hv_m1 (by omega)).mpr c4
        simp only [decide_eq_false_iff_not]; omega
      · have c3 := mt (hv_m1 (n := P 5 k) (by omega)).mpr c3
        have c4 := (hv_m1 (by omega)).mp c4
        have e : thirdS H P a c0 = k := first_is hk (by simp only [decide_eq_true_eq]; exact ⟨fun z => c (by rw [z]), fun z => c2 (by rw [z]), c3, c4⟩) hno
        rw [e, if_pos hk] at h
        exact X_finish ok hP hk c4 (by omega) (by decide) (fun d2 hf hp _ => h d2 hf hp)
