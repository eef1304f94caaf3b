/-! ===== the class takes tokens ===== -/
def FO (n : Nat) (o : Option (Nat × Nat)) (d : DD) : Prop := match o with
  | none => d 36 2 = nI 0
  | some e => okE n e ∧ d 36 2 = nI e.1 ∧ d 36 3 = nI e.2
def oS : Sg → Option (Nat × Nat)
  | .inl e => some e
  | .inr _ => none
def fO (o : Option (Nat × Nat)) (e : Nat × Nat) : Option (Nat × Nat) := match o with
  | none => some e
  | some x => some x
/-- the current token is the one behind the place of σ -/
def XA (f : Nat → Nat) (n : Nat) (x0 : DD) (σ : Sg) (d : DD) : Prop := XB f n x0 d ∧ FO n (oS σ) d ∧ ∃ i, i ≤ n ∧ XTk f n i d ∧ ∀ j, σ = .inr j → j = i
/-- the next place to be read is that of σ -/
def XS (f : Nat → Nat) (n : Nat) (x0 : DD) (σ : Sg) (d : DD) : Prop := XB f n x0 d ∧ FO n (oS σ) d ∧ ∃ i, i ≤ n ∧ d 36 6 = nI i ∧ ∀ j, σ = .inr j → j = i
theorem FO.same {n : Nat} {o : Option (Nat × Nat)} {d d' : DD} (h : FO n o d) (e2 : d' 36 2 = d 36 2) (e3 : d' 36 3 = d 36 3) : FO n o d' := by
  unfold FO at h ⊢
  cases o with
  | none => exact e2.trans h
  | some e => exact ⟨h.1, e2.trans h.2.1, e3.trans h.2.2⟩
theorem XTk.same {f : Nat → Nat} {n i : Nat} {d d' : DD} (h : XTk f n i d) (e : ∀ j, 4 ≤ j → d' 36 j = d 36 j) : XTk f n i d' := ⟨(e 4 (by omega)).trans h.1, (e 5 (by omega)).trans h.2.1, (e 6 (by omega)).trans h.2.2⟩
/-- a put into the told house -/
theorem XB.put {f : Nat → Nat} {n : Nat} {x0 d d' : DD} (h : XB f n x0 d) (hd : ∀ a, (a < 12 ∨ 22 < a) → d' a = d a) : XB f n x0 d' := by
  obtain ⟨g1, g2, g3, g4, g5⟩ := h
  exact ⟨g1, g2, by rw [hd 36 (by omega)]; exact g3, fun i hi => by rw [hd 37 (by omega)]; exact g4 i hi, fun a ha hb => by rw [hd a hb]; exact g5 a ha hb⟩
theorem XS.put {f : Nat → Nat} {n : Nat} {x0 d d' : DD} {σ : Sg} (h : XS f n x0 σ d) (hd : ∀ a, (a < 12 ∨ 22 < a) → d' a = d a) : XS f n x0 σ d' := by
  obtain ⟨h1, h2, i, h3, h4, h5⟩ := h
  exact ⟨h1.put hd, h2.same (by rw [hd 36 (by omega)]) (by rw [hd 36 (by omega)]), i, h3, by rw [hd 36 (by omega)]; exact h4, h5⟩
theorem XA.put {f : Nat → Nat} {n : Nat} {x0 d d' : DD} {σ : Sg} (h : XA f n x0 σ d) (hd : ∀ a, (a < 12 ∨ 22 < a) → d' a = d a) : XA f n x0 σ d' := by
  obtain ⟨h1, h2, i, h3, h4, h5⟩ := h
  exact ⟨h1.put hd, h2.same (by rw [hd 36 (by omega)]) (by rw [hd 36 (by omega)]), i, h3, h4.same (fun j _ => by rw [hd 36 (by omega)]), h5⟩
theorem X_adv {q : DD → Prop} {x0 : DD} {f : Nat → Nat} {n : Nat} {σ : Sg} {d : DD} (hS : XS f n x0 σ d) (h : ∀ d', XA f n x0 σ d' → (∀ a, a ≠ 36 → d' a = d a) → q d') : Cn SX MX3_advance [.ref 36] d (rV q) := by
  obtain ⟨h1, h2, i, h3, h4, h5⟩ := hS
  exact X_advance h3 h1 h4 fun d' t k => h d' ⟨h1.tf t, h2.same (t.2 2 (by omega)) (t.2 3 (by omega)), i, h3, k, h5⟩ t.1
theorem X_fail {q : DD → Prop} {d : DD} {n c p : Nat} {o : Option (Nat × Nat)} (hF : FO n o d) (hn : n ≤ 160) (h1 : 1 ≤ c) (h6 : c ≤ 6) (hp : p ≤ n) (h : ∀ d', FO n (fO o (c, p)) d' → (∀ a, a ≠ 36 → d' a = d a) → (∀ j, j ≠ 2 → j ≠ 3 → d' 36 j = d 36 j) → q d') : Cn SX MX3_fail [.ref 36, .int (nI c), .int (nI p)] d (rV q) := by
  cases o with
  | none =>
    have e2 : d 36 2 = nI 0 := hF
    refine cn_X3_fail (rr_t (by rw [e2]; rfl) (nm_e (nm_e (h _ ⟨⟨h1, h6, hp⟩, ?_, up_s⟩ (fun a ha => by rw [up_ne a ha, up_ne a ha]) (fun j a b => by rw [up_n (by omega), up_n (by omega)])))))
    rw [up_n (by omega), up_s]
  | some e =>
    obtain ⟨k1, k2, k3⟩ := id hF
    refine cn_X3_fail (rr_f (by rw [k2]; exact lit_ne (b := 0) (by have := k1.2.1; omega) (by omega) (by have := k1.1; omega)) (h d hF (fun _ _ => rfl) (fun _ _ _ => rfl)))
/-- a FAULT at the current token -/
theorem X_failT {q : DD → Prop} {x0 : DD} {f : Nat → Nat} {n c : Nat} {σ : Sg} {d : DD} (hA : XA f n x0 σ d) (h1 : 1 ≤ c) (h6 : c ≤ 6) (h : ∀ d', XS f n x0 (sB (fun i => .inl (c, tP f n i)) σ) d' → (∀ a, a ≠ 36 → d' a = d a) → (∀ j, j ≠ 2 → j ≠ 3 → d' 36 j = d 36 j) → q d') : Cn SX MX3_fail [.ref 36, .int (nI c), .int (d 36 5)] d (rV q) := by
  obtain ⟨hB, hF, i, hi, hk, hj⟩ := hA
  rw [hk.2.1]
  have hn := hB.1
  refine X_fail hF hn h1 h6 (tP_le hi) fun d' g1 g2 g3 => h d' ⟨?_, ?_, tN f n i, tN_le hi, ?_, ?_⟩ g2 g3
  · exact ⟨hB.1, hB.2.1, by rw [g3 1 (by omega) (by omega)]; exact hB.2.2.1, fun k hk => by rw [g2 37 (by omega)]; exact hB.2.2.2.1 k hk, fun a ha hb => by rw [g2 a ha]; exact hB.2.2.2.2 a ha hb⟩
  · cases σ with
    | inl e => exact g1
    | inr j => rw [hj j rfl]; exact g1
  · rw [g3 6 (by omega) (by omega)]; exact hk.2.2
  · intro j e
    cases σ with
    | inl e2 => cases e
    | inr j => cases e
theorem X_number {q : Int32 → DD → Prop} {x0 : DD} {f : Nat → Nat} {n lo hi : Nat} {σ : Sg} {d : DD} (hA : XA f n x0 σ d) (hlh : lo ≤ hi) (hh : hi ≤ 99) (h : ∀ v d', lo ≤ v → v ≤ hi → XS f n x0 (sB (sNum f n lo hi) σ) d' → (∀ i i', σ = .inr i → sNum f n lo hi i = .inr i' → v = tV f n i) → (∀ a, a ≠ 36 → d' a = d a) → (∀ j, j ≠ 2 → j ≠ 3 → d' 36 j = d 36 j) → q (nI v) d') : Cn SX MX3_number [.ref 36, .int (nI lo), .int (nI hi)] d (rI q) := by
  obtain ⟨hB, hF, i, hi9, hk, hj⟩ := id hA
  have hn := hB.1
  have hK := tK_le (f := f) (n := n) (i := i)
  -- a FAULT of the number c
  have bad : ∀ c, 1 ≤ c → c ≤ 6 → sNum f n lo hi i = .inl (c, tP f n i) → Cn SX MX3_fail [.ref 36, .int (nI c), .int (d 36 5)] d (rV fun d3 => q (nI lo) d3) := by
    intro c h1 h6 es
    refine X_failT hA h1 h6 fun d' g1 g2 g3 => h lo d' (Nat.le_refl _) hlh ?_ ?_ g2 g3
    · cases σ with
      | inl e => exact g1
      | inr j =>
        have := hj j rfl
        subst this
        show XS f n x0 (sNum f n lo hi j) d'
        rw [es]; exact g1
    · intro j j' e1 e2
      have := hj j e1
      subst this
      rw [es] at e2; cases e2
  refine cn_X3_number ?_
  rw [hk.1]
  by_cases c4 : tK f n i = 4
  · refine rr_t (by rw [c4]; rfl) (bad 1 (by omega) (by omega) ?_)
    unfold sNum; rw [if_pos c4]
  · refine rr_f (lit_ne (b := 4) (by omega) (by omega) c4) ?_
    by_cases c2 : tK f n i = 2
    · refine br_t (by rw [c2]; rfl) ?_
      obtain ⟨t1, t2, t3, t4, t5⟩ := tK2 c2
      have hle := tN_le (f := f) hi9
      have hge := tN_ge (f := f) (n := n) (i := i)
      have hlt := tV_lt c2
      rw [hk.2.1, li_0]
      -- the figures
      suffices hs : ∀ k r, k + r = tN f n i - tP f n i → Ev SX MX3_number 46 [.ref 36, .int (nI lo), .int (nI hi), .int (nI (vlN f (tP f n i) k)), .int (nI (tP f n i + k))] [] d (rI q) from hs 0 _ (Nat.zero_add _)
      intro k r
      induction r generalizing k with
      | zero =>
        intro hk2
        refine bk_X3_number_46 (br_t ?_ ?_)
        · rw [hk.2.2]; exact nI_le (by omega) (by omega)
        have ev : vlN f (tP f n i) k = tV f n i := by unfold tV; rw [show k = tN f n i - tP f n i by omega]
        rw [ev]
        refine X_wlh lo hi (by omega) (by omega) (by omega) (fun z => y1 ?_) (fun z => y0 (bad 3 (by omega) (by omega) ?_))
        · have es : sNum f n lo hi i = .inr (tN f n i) := by unfold sNum; rw [if_neg c4, if_pos c2, if_pos z]
          refine h _ d z.1 z.2 ⟨hB, ?_, tN f n i, hle, hk.2.2, ?_⟩ ?_ (fun _ _ => rfl) (fun _ _ _ => rfl)
          · cases σ with
            | inl e => exact hF
            | inr j =>
              have := hj j rfl
              subst this
              show FO n (oS (sNum f n lo hi j)) d
              rw [es]; exact hF
          · intro j e
            cases σ with
            | inl e2 => cases e
            | inr j2 =>
              have := hj j2 rfl
              subst this
              have e' : sNum f n lo hi j2 = .inr j := e
              rw [es] at e'; cases e'; rfl
          · intro j j' e1 e2
            rw [hj j e1]
        · unfold sNum; rw [if_neg c4, if_pos c2, if_neg z]
      | succ r ih =>
        intro hk2
        have h5 := t5 (tP f n i + k) (by omega) (by omega)
        have hv := vlN_lt (f := f) (p := tP f n i) k (fun j a b => t5 j a (by omega))
        have hp10 : 10 ^ k ≤ 10 ^ 2 := Nat.pow_le_pow_right (by decide) (by omega)
        refine bk_X3_number_46 (br_f ?_ ⟨vp_in_nI (by omega) (by omega), nm_e ?_⟩)
        · rw [hk.2.2]; exact fun z => absurd ((nI_leI (by omega) (by omega)).mp z) (by omega)
        rw [nI_clamp (by omega), hB.2.2.2.1 _ (by omega), nI_1, li_10, pk_mul, nI_add, show (48 : Int32) = nI 48 from rfl, pk_sub (by omega)]
        have := ih (k + 1) (by omega)
        rw [show vlN f (tP f n i) (k + 1) = vlN f (tP f n i) k * 10 + f (tP f n i + k) - 48 from by show vlN f (tP f n i) k * 10 + (f (tP f n i + k) - 48) = _; omega] at this
        exact this
    · refine br_f (lit_ne (b := 2) (by omega) (by omega) c2) (bad 2 (by omega) (by omega) ?_)
      unfold sNum; rw [if_neg c4, if_neg c2]
theorem X_next {q : Int32 → DD → Prop} {x0 : DD} {f : Nat → Nat} {n lo hi : Nat} {σ : Sg} {d : DD} (hS : XS f n x0 σ d) (hlh : lo ≤ hi) (hh : hi ≤ 99) (h : ∀ v d', lo ≤ v → v ≤ hi → XS f n x0 (sB (sNum f n lo hi) σ) d' → (∀ i i', σ = .inr i → sNum f n lo hi i = .inr i' → v = tV f n i) → (∀ a, a ≠ 36 → d' a = d a) → q (nI v) d') : Cn SX MX3_nextNumber [.ref 36, .int (nI lo), .int (nI hi)] d (rI q) :=
  cn_X3_nextNumber (X_adv hS fun d1 hA g1 => X_number hA hlh hh fun v d2 a1 a2 a3 a4 a5 _ => h v d2 a1 a2 a3 a4 (fun a ha => (a5 a ha).trans (g1 a ha)))
theorem X_sign {q : DD → Prop} {x0 : DD} {f : Nat → Nat} {n : Nat} {σ : Sg} {d : DD} (hA : XA f n x0 σ d) (h : ∀ d', XS f n x0 (sB (sSgn f n) σ) d' → (∀ a, a ≠ 36 → d' a = d a) → q d') : Cn SX MX3_sign [.ref 36] d (rV q) := by
  obtain ⟨hB, hF, i, hi9, hk, hj⟩ := id hA
  have hK := tK_le (f := f) (n := n) (i := i)
  have bad : ∀ c, 1 ≤ c → c ≤ 6 → sSgn f n i = .inl (c, tP f n i) → Cn SX MX3_fail [.ref 36, .int (nI c), .int (d 36 5)] d (rV fun d3 => q d3) := by
    intro c h1 h6 es
    refine X_failT hA h1 h6 fun d' g1 g2 g3 => h d' ?_ g2
    cases σ with
    | inl e => exact g1
    | inr j =>
      have := hj j rfl
      subst this
      show XS f n x0 (sSgn f n j) d'
      rw [es]; exact g1
  refine cn_X3_sign ?_
  rw [hk.1]
  by_cases c3 : tK f n i = 3
  · refine br_t (by rw [c3]; rfl) (h d ⟨hB, ?_, tN f n i, tN_le hi9, hk.2.2, ?_⟩ (fun _ _ => rfl))
    · cases σ with
      | inl e => exact hF
      | inr j =>
        have := hj j rfl
        subst this
        show FO n (oS (sSgn f n j)) d
        unfold sSgn; rw [if_neg (by omega), if_pos c3]; exact hF
    · intro j e
      cases σ with
      | inl e2 => cases e
      | inr j2 =>
        have := hj j2 rfl
        subst this
        have e' : sSgn f n j2 = .inr j := e
        unfold sSgn at e'; rw [if_neg (by omega), if_pos c3] at e'; cases e'; rfl
  · refine br_f (lit_ne (b := 3) (by omega) (by omega) c3) ?_
    by_cases c4 : tK f n i = 4
    · refine rr_t (by rw [c4]; rfl) (bad 1 (by omega) (by omega) ?_)
      unfold sSgn; rw [if_pos c4]
    · refine rr_f (lit_ne (b := 4) (by omega) (by omega) c4) (bad 2 (by omega) (by omega) ?_)
      unfold sSgn; rw [if_neg c4, if_neg c3]
