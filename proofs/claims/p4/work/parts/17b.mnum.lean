/-! ===== the reference takes tokens ===== -/
def YE (n : Nat) (e : Nat × Nat) (d : DD) : Prop := okE n e ∧ d 0 12 = nI e.1 ∧ d 0 13 = nI e.2
def YS (f : Nat → Nat) (n : Nat) (m0 : DD) (σ : Sg) (d : DD) : Prop := YB f n m0 d ∧ match σ with
  | .inl e => YE n e d
  | .inr i => i ≤ n ∧ YT f n i d
def YP (f : Nat → Nat) (n : Nat) (m0 : DD) (σ : Sg) (d : DD) : Prop := YB f n m0 d ∧ match σ with
  | .inl e => YE n e d
  | .inr i => i ≤ n ∧ d 0 12 = nI 0 ∧ d 0 14 = nI i
theorem YE.nz {n : Nat} {e : Nat × Nat} {d : DD} (h : YE n e d) : ¬ d 0 12 = 0 := by
  rw [h.2.1]; exact lit_ne (b := 0) (by have := h.1.2.1; omega) (by omega) (by have := h.1.1; omega)
theorem YE.put {n : Nat} {e : Nat × Nat} {d d' : DD} (h : YE n e d) (hj : ∀ j, 12 ≤ j → j ≤ 17 → d' 0 j = d 0 j) : YE n e d' := ⟨h.1, (hj 12 (by omega) (by omega)).trans h.2.1, (hj 13 (by omega) (by omega)).trans h.2.2⟩
theorem YT.put {f : Nat → Nat} {n i : Nat} {d d' : DD} (h : YT f n i d) (hj : ∀ j, 12 ≤ j → j ≤ 17 → d' 0 j = d 0 j) : YT f n i d' := by
  unfold YT at h ⊢
  split
  · rename_i c; rw [if_pos c] at h; exact ⟨(hj 12 (by omega) (by omega)).trans h.1, (hj 13 (by omega) (by omega)).trans h.2⟩
  · rename_i c; rw [if_neg c] at h
    exact ⟨(hj 12 (by omega) (by omega)).trans h.1, (hj 14 (by omega) (by omega)).trans h.2.1, (hj 15 (by omega) (by omega)).trans h.2.2.1, (hj 16 (by omega) (by omega)).trans h.2.2.2.1, fun z => (hj 17 (by omega) (by omega)).trans (h.2.2.2.2 z)⟩
/-- a put onto the page that is read, its counts, the highest tune -/
def YPu (d d' : DD) : Prop := (∀ a, a ≠ 0 → a ≠ 2 → d' a = d a) ∧ ∀ j, ¬ (5 ≤ j ∧ j ≤ 8) → d' 0 j = d 0 j
theorem YPu.row {d : DD} {j : Nat} {v : Int32} : YPu d (up d 2 j v) := ⟨fun a _ h => up_ne a (by omega), fun i _ => by rw [up_ne 0 (by omega)]⟩
theorem YPu.cnt {d : DD} {j : Nat} {v : Int32} (h1 : 5 ≤ j) (h2 : j ≤ 8) : YPu d (up d 0 j v) := ⟨fun a h _ => up_ne a (by omega), fun i hi => up_n (by omega)⟩
theorem YS.put {f : Nat → Nat} {n : Nat} {m0 d d' : DD} {σ : Sg} (h : YS f n m0 σ d) (p : YPu d d') : YS f n m0 σ d' := by
  obtain ⟨hB, hs⟩ := h
  refine ⟨hB.put p.1 (fun j hj => p.2 j (fun z => hj (by unfold frJ; omega))), ?_⟩
  cases σ with
  | inl e => exact hs.put (fun j a b => p.2 j (by omega))
  | inr i => exact ⟨hs.1, hs.2.put (fun j a b => p.2 j (by omega))⟩
theorem M_stepS {q : DD → Prop} {m0 : DD} {f : Nat → Nat} {n : Nat} {σ : Sg} {d : DD} (hP : YP f n m0 σ d) (h : ∀ d', YS f n m0 σ d' → YTf d d' → q d') : Cn SM MX5_step [.ref 0] d (rV q) := by
  obtain ⟨hB, hs⟩ := hP
  cases σ with
  | inl e =>
    refine cn_X5_step (br_f ?_ (h d ⟨hB, hs⟩ YTf.rf))
    have he : YE n e d := hs
    rw [he.2.1]
    intro z
    have := (nI_leI (b := 0) (by have := he.1.2.1; omega) (by omega)).mp z
    have := he.1.1
    omega
  | inr i =>
    obtain ⟨hi, h12, h14⟩ := hs
    exact M_step hi hB h12 h14 (fun d' t k => h d' ⟨hB.tf t, hi, k⟩ t)
theorem M_num_b {q : Int32 → DD → Prop} {d : DD} {l1 l2 : Int32} (hz : ¬ d 0 12 = 0) (hz2 : ¬ d 0 12 ≤ 0) (h : q l1 d) : Cn SM MX5_number [.ref 0, .int l1, .int l2] d (rI q) :=
  cn_X5_number (rr_f hz (bk_X5_number_20 (rr_f hz (bk_X5_number_47 (rr_f hz (cn_X5_step (br_f hz2 h)))))))
theorem YE.nle {n : Nat} {e : Nat × Nat} {d : DD} (h : YE n e d) : ¬ d 0 12 ≤ 0 := by
  rw [h.2.1]
  intro z
  have := (nI_leI (b := 0) (by have := h.1.2.1; omega) (by omega)).mp z
  have := h.1.1
  omega
theorem YB.t5 {f : Nat → Nat} {n : Nat} {m0 d : DD} (h : YB f n m0 d) {c : Nat} : YTf d (up (up d 0 12 (nI c)) 0 13 (d 0 15)) := (YTf.up (by omega) (by omega)).tr (YTf.up (by omega) (by omega))
theorem M_num {q : Int32 → DD → Prop} {m0 : DD} {f : Nat → Nat} {n lo hi : Nat} {σ : Sg} {d : DD} (hS : YS f n m0 σ d) (hlh : lo ≤ hi) (hh : hi ≤ 99) (h : ∀ v d', v ≤ hi → YS f n m0 (sB (sNum f n lo hi) σ) d' → (∀ i i', σ = .inr i → sNum f n lo hi i = .inr i' → v = tV f n i) → YTf d d' → q (nI v) d') : Cn SM MX5_number [.ref 0, .int (nI lo), .int (nI hi)] d (rI q) := by
  obtain ⟨hB, hs⟩ := id hS
  cases σ with
  | inl e =>
    have he : YE n e d := hs
    exact M_num_b he.nz he.nle (h lo d hlh hS (fun i i' e => by cases e) YTf.rf)
  | inr i =>
    obtain ⟨hi9, hT⟩ := hs
    have hK := tK_le (f := f) (n := n) (i := i)
    have hp := tP_le (f := f) hi9
    have hn := hB.1
    show Cn SM MX5_number [.ref 0, .int (nI lo), .int (nI hi)] d (rI q)
    by_cases c4 : tK f n i = 4
    · have es : sNum f n lo hi i = .inl (1, tP f n i) := by unfold sNum; rw [if_pos c4]
      unfold YT at hT; rw [if_pos c4] at hT
      have he : YE n (1, tP f n i) d := ⟨⟨Nat.le_of_ble_eq_true rfl, Nat.le_of_ble_eq_true rfl, hp⟩, hT.1, hT.2⟩
      refine M_num_b he.nz he.nle (h lo d hlh ?_ (fun j j' e1 e2 => by cases e1; rw [es] at e2; cases e2) YTf.rf)
      show YS f n m0 (sNum f n lo hi i) d
      rw [es]; exact ⟨hB, he⟩
    · unfold YT at hT; rw [if_neg c4] at hT
      obtain ⟨t12, t14, t15, t16, t17⟩ := hT
      have z12 : d 0 12 = 0 := t12
      have bad : ∀ c, 1 ≤ c → c ≤ 6 → sNum f n lo hi i = .inl (c, tP f n i) → ∀ d', d' = up (up d 0 12 (nI c)) 0 13 (d 0 15) → YE n (c, tP f n i) d' ∧ q (nI lo) d' := by
        intro c h1 h6 es d' e
        have he : YE n (c, tP f n i) d' := by
          rw [e]
          exact ⟨⟨h1, h6, hp⟩, by rw [up_n (by omega), up_s], by rw [up_s]; exact t15⟩
        have ht : YTf d d' := by rw [e]; exact hB.t5
        refine ⟨he, h lo d' hlh ?_ (fun j j' e1 e2 => by cases e1; rw [es] at e2; cases e2) ht⟩
        show YS f n m0 (sNum f n lo hi i) d'
        rw [es]; exact ⟨hB.tf ht, he⟩
      refine cn_X5_number (rr_t z12 ?_)
      rw [t16]
      by_cases c2 : tK f n i = 2
      · have hv := tV_lt c2
        refine br_t (by rw [c2]; rfl) (bk_X5_number_20 (rr_t z12 ?_))
        rw [t17 c2, nI_64 (n := lo) (by omega), nI_64 (n := hi) (by omega)]
        refine M_wlh lo hi (by omega) (by omega) (by omega) (fun z => y1 ?_) (fun z => y0 (M_fails (c := 3) (fun _ => ?_) (fun y => absurd z12 y)))
        · have es : sNum f n lo hi i = .inr (tN f n i) := by unfold sNum; rw [if_neg c4, if_pos c2, if_pos z]
          refine bk_X5_number_47 (rr_t z12 (M_stepS (σ := .inr (tN f n i)) ⟨hB, tN_le hi9, t12, t14⟩ (fun d' s t => ?_)))
          rw [t17 c2]
          refine h _ d' z.2 ?_ (fun j j' e1 e2 => by cases e1; rfl) t
          show YS f n m0 (sNum f n lo hi i) d'
          rw [es]; exact s
        · obtain ⟨he, hq⟩ := bad 3 (by omega) (by omega) (by unfold sNum; rw [if_neg c4, if_pos c2, if_neg z]) _ rfl
          exact bk_X5_number_47 (rr_f he.nz (cn_X5_step (br_f he.nle hq)))
      · refine br_f (lit_ne (b := 2) (by omega) (by omega) c2) (M_fails (c := 2) (fun _ => ?_) (fun y => absurd z12 y))
        obtain ⟨he, hq⟩ := bad 2 (by omega) (by omega) (by unfold sNum; rw [if_neg c4, if_neg c2]) _ rfl
        exact bk_X5_number_20 (rr_f he.nz (bk_X5_number_47 (rr_f he.nz (cn_X5_step (br_f he.nle hq)))))
/-- the sign behind a line -/
theorem M_sgnS {q : DD → Prop} {m0 : DD} {f : Nat → Nat} {n : Nat} {σ : Sg} {d : DD} (hS : YS f n m0 σ d) (h : ∀ d', YS f n m0 (sB (sSgn f n) σ) d' → YTf d d' → q d') : (¬ d 0 12 = 0 → Cn SM MX5_step [.ref 0] d (rV fun d5 => q d5)) ∧ (d 0 12 = 0 → ((d 0 16 = 3 → Cn SM MX5_step [.ref 0] d (rV fun d7 => q d7)) ∧ (¬ d 0 16 = 3 → Cn SM MX5_fails [.ref 0, .int 2] d (rV fun d8 => Cn SM MX5_step [.ref 0] d8 (rV fun d9 => q d9))))) := by
  obtain ⟨hB, hs⟩ := id hS
  cases σ with
  | inl e =>
    have he : YE n e d := hs
    exact rr_f he.nz (cn_X5_step (br_f he.nle (h d hS YTf.rf)))
  | inr i =>
    obtain ⟨hi9, hT⟩ := hs
    have hK := tK_le (f := f) (n := n) (i := i)
    have hp := tP_le (f := f) hi9
    by_cases c4 : tK f n i = 4
    · have es : sSgn f n i = .inl (1, tP f n i) := by unfold sSgn; rw [if_pos c4]
      unfold YT at hT; rw [if_pos c4] at hT
      have he : YE n (1, tP f n i) d := ⟨⟨Nat.le_of_ble_eq_true rfl, Nat.le_of_ble_eq_true rfl, hp⟩, hT.1, hT.2⟩
      refine rr_f he.nz (cn_X5_step (br_f he.nle (h d ?_ YTf.rf)))
      show YS f n m0 (sSgn f n i) d
      rw [es]; exact ⟨hB, he⟩
    · unfold YT at hT; rw [if_neg c4] at hT
      obtain ⟨t12, t14, t15, t16, t17⟩ := hT
      have z12 : d 0 12 = 0 := t12
      refine rr_t z12 ?_
      rw [t16]
      by_cases c3 : tK f n i = 3
      · have es : sSgn f n i = .inr (tN f n i) := by unfold sSgn; rw [if_neg c4, if_pos c3]
        refine br_t (by rw [c3]; rfl) (M_stepS (σ := .inr (tN f n i)) ⟨hB, tN_le hi9, t12, t14⟩ (fun d' s t => h d' ?_ t))
        show YS f n m0 (sSgn f n i) d'
        rw [es]; exact s
      · have es : sSgn f n i = .inl (2, tP f n i) := by unfold sSgn; rw [if_neg c4, if_neg c3]
        refine br_f (lit_ne (b := 3) (by omega) (by omega) c3) (M_fails (c := 2) (fun _ => ?_) (fun y => absurd z12 y))
        have ht : YTf d (up (up d 0 12 (nI 2)) 0 13 (d 0 15)) := hB.t5
        have he : YE n (2, tP f n i) (up (up d 0 12 (nI 2)) 0 13 (d 0 15)) := ⟨⟨Nat.le_of_ble_eq_true rfl, Nat.le_of_ble_eq_true rfl, hp⟩, by rw [up_n (by omega), up_s], by rw [up_s]; exact t15⟩
        refine cn_X5_step (br_f he.nle (h _ ?_ ht))
        show YS f n m0 (sSgn f n i) _
        rw [es]; exact ⟨hB.tf ht, he⟩
/-! the page that is read -/
def HI (H : HH) (h : Nat) : Prop := (∀ p, p < nP H → H 8 p < h) ∧ (∀ q, q < nB H → H 9 q < h) ∧ h ≤ 4 ∧ ∀ b, (∀ p, p < nP H → H 8 p < b) → (∀ q, q < nB H → H 9 q < b) → h ≤ b
def Y2 (d : DD) (H : HH) (h : Nat) : Prop := d 0 5 = nI (nT H) ∧ d 0 6 = nI (nP H) ∧ d 0 7 = nI (nB H) ∧
  (∀ t, t < nT H → d 2 t = nI (H 0 t) ∧ d 2 (4 + t) = nI (H 1 t) ∧ d 2 (8 + t) = nI (H 2 t) ∧ d 2 (12 + t) = nI (H 3 t) ∧ ∀ i, i < H 1 t → d 2 (16 + (8 * t + i)) = nI (H 4 (8 * t + i))) ∧
  (∀ p, p < nP H → d 2 (48 + p) = nI (H 5 p) ∧ d 2 (52 + p) = nI (H 6 p) ∧ d 2 (56 + p) = nI (H 7 p) ∧ d 2 (60 + p) = nI (H 8 p)) ∧ (∀ q, q < nB H → d 2 (64 + q) = nI (H 9 q)) ∧ d 0 8 = nI h - 1 ∧ HI H h
theorem Y2.tf {d d' : DD} {H : HH} {h : Nat} (y : Y2 d H h) (t : YTf d d') : Y2 d' H h := by
  obtain ⟨a1, a2, a3, a4, a5, a6, a7, a8⟩ := y
  have r2 := t.1 2 (by omega)
  exact ⟨by rw [t.2 5 (by omega)]; exact a1, by rw [t.2 6 (by omega)]; exact a2, by rw [t.2 7 (by omega)]; exact a3, by rw [r2]; exact a4, by rw [r2]; exact a5, by rw [r2]; exact a6, by rw [t.2 8 (by omega)]; exact a7, a8⟩
theorem le_p1 {v h : Nat} (hv : v ≤ 1000) (hh : h ≤ 1000) : nI v ≤ nI h - 1 ↔ v + 1 ≤ h := by
  have e : (nI h - 1 : Int32).toInt = (h : Int) - 1 := by
    rw [Int32.toInt_sub, nI_toInt (by omega), show ((1 : Int32)).toInt = 1 from by decide]
    exact Int.bmod_eq_of_le (by omega) (by omega)
  rw [i_le, e, nI_toInt (by omega)]
  omega
theorem lt_p1 {v h : Nat} (hv : v ≤ 1000) (hh : h ≤ 1000) : nI h - 1 < nI v ↔ h < v + 1 := by
  have e : (nI h - 1 : Int32).toInt = (h : Int) - 1 := by
    rw [Int32.toInt_sub, nI_toInt (by omega), show ((1 : Int32)).toInt = 1 from by decide]
    exact Int.bmod_eq_of_le (by omega) (by omega)
  rw [i_lt, e, nI_toInt (by omega)]
  omega
theorem M_tuneHere {q : Int32 → DD → Prop} {m0 : DD} {f : Nat → Nat} {n h0 : Nat} {σ : Sg} {d : DD} (hS : YS f n m0 σ d) (h8 : d 0 8 = nI h0 - 1) (hh : h0 ≤ 4) (h : ∀ v d', v ≤ 3 → YS f n m0 (sB (sNum f n 0 3) σ) d' → (∀ i i', σ = .inr i → sNum f n 0 3 i = .inr i' → v = tV f n i) → (∀ a, a ≠ 0 → d' a = d a) → (∀ j, 5 ≤ j → j ≤ 7 → d' 0 j = d 0 j) → d' 0 8 = nI (max h0 (v + 1)) - 1 → q (nI v) d') : Cn SM MX5_tuneHere [.ref 0] d (rI q) := by
  refine cn_X5_tuneHere (M_num (lo := 0) (hi := 3) hS (by omega) (by omega) (fun v d' v3 s ev t => ?_))
  have e8 : d' 0 8 = nI h0 - 1 := by rw [t.2 8 (by omega)]; exact h8
  rw [e8]
  by_cases c : v + 1 ≤ h0
  · refine br_t ((le_p1 (by omega) (by omega)).mpr c) (nm_e (h v _ v3 (s.put (YPu.cnt (by omega) (by omega))) ev (fun a ha => by rw [up_ne a ha]; exact t.1 a ha) (fun j h1 h2 => by rw [up_n (by omega)]; exact t.2 j (by omega)) ?_))
    rw [up_s, show max h0 (v + 1) = h0 by omega]
  · refine br_f (fun z => c ((le_p1 (by omega) (by omega)).mp z)) (nm_e (h v _ v3 (s.put (YPu.cnt (by omega) (by omega))) ev (fun a ha => by rw [up_ne a ha]; exact t.1 a ha) (fun j h1 h2 => by rw [up_n (by omega)]; exact t.2 j (by omega)) ?_))
    rw [up_s, show max h0 (v + 1) = v + 1 by omega, nI_pred]
