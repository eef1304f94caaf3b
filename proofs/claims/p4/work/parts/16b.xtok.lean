/-! ===== the class reads tokens ===== -/
/-- the tape, and what isn't the tape's nor the told house's -/
def XB (f : Nat → Nat) (n : Nat) (x0 d : DD) : Prop := n ≤ 160 ∧ (∀ i, i < n → f i ≤ 127) ∧ d 36 1 = nI n ∧ (∀ i, i < n → d 37 i = nI (f i)) ∧ ∀ a, a ≠ 36 → (a < 12 ∨ 22 < a) → d a = x0 a
theorem XB.up36 {f : Nat → Nat} {n j : Nat} {x0 d : DD} {v : Int32} (h : XB f n x0 d) (hj : j ≠ 1) : XB f n x0 (up d 36 j v) := by
  obtain ⟨h1, h2, h3, h4, h5⟩ := h
  exact ⟨h1, h2, by rw [up_n (by omega)]; exact h3, fun i hi => by rw [up_ne 37 (by omega)]; exact h4 i hi, fun a ha hb => by rw [up_ne a (by omega)]; exact h5 a ha hb⟩
theorem XB.upH {f : Nat → Nat} {n a0 j : Nat} {x0 d : DD} {v : Int32} (h : XB f n x0 d) (h1 : 12 ≤ a0) (h2 : a0 ≤ 22) : XB f n x0 (up d a0 j v) := by
  obtain ⟨g1, g2, g3, g4, g5⟩ := h
  exact ⟨g1, g2, by rw [up_n (by omega)]; exact g3, fun i hi => by rw [up_ne 37 (by omega)]; exact g4 i hi, fun a ha hb => by rw [up_ne a (by omega)]; exact g5 a ha hb⟩
/-- the tokens' fields but the FAULT -/
def XTk (f : Nat → Nat) (n i : Nat) (d : DD) : Prop := d 36 4 = nI (tK f n i) ∧ d 36 5 = nI (tP f n i) ∧ d 36 6 = nI (tN f n i)
/-- what of the class isn't touched by reading a token: all but the cell 36; there 1, 2, 3 -/
def XTf (d d' : DD) : Prop := (∀ a, a ≠ 36 → d' a = d a) ∧ ∀ j, j < 4 → d' 36 j = d 36 j
theorem XTf.rf {d : DD} : XTf d d := ⟨fun _ _ => rfl, fun _ _ => rfl⟩
theorem XTf.tr {a b c : DD} (h : XTf a b) (h2 : XTf b c) : XTf a c := ⟨fun x hx => (h2.1 x hx).trans (h.1 x hx), fun j hj => (h2.2 j hj).trans (h.2 j hj)⟩
theorem XTf.up {d : DD} {j : Nat} {v : Int32} (h : 4 ≤ j) : XTf d (up d 36 j v) := ⟨fun a ha => up_ne a (by omega), fun i hi => up_n (by omega)⟩
theorem XB.tf {f : Nat → Nat} {n : Nat} {x0 d d' : DD} (h : XB f n x0 d) (t : XTf d d') : XB f n x0 d' := by
  obtain ⟨h1, h2, h3, h4, h5⟩ := h
  exact ⟨h1, h2, by rw [t.2 1 (by omega)]; exact h3, fun i hi => by rw [t.1 37 (by omega)]; exact h4 i hi, fun a ha hb => by rw [t.1 a ha]; exact h5 a ha hb⟩
theorem X_wlh {q : Int32 → DD → Prop} {d : DD} {w : Nat} (lo hi : Nat) (hw : w < 2 ^ 31) (hl : lo < 2 ^ 31) (hh : hi < 2 ^ 31) (h1 : lo ≤ w ∧ w ≤ hi → q 1 d) (h0 : ¬ (lo ≤ w ∧ w ≤ hi) → q 0 d) : Cn SX MX4_within [.int (nI w), .int (nI lo), .int (nI hi)] d (rI q) :=
  X_within (fun a b => h1 ⟨(nI_leI hl hw).mp a, (nI_leI hw hh).mp b⟩) (fun z => h0 (fun y => z ⟨(nI_leI hl hw).mpr y.1, (nI_leI hw hh).mpr y.2⟩))
theorem X_pass {q : DD → Prop} {x0 : DD} {f : Nat → Nat} {n lo hi : Nat} (hl : lo ≤ 127) (hh : hi ≤ 127) (P : Nat → Bool) (hP : ∀ j, P j = decide (lo ≤ f j ∧ f j ≤ hi)) : ∀ k i d, n - i = k → i ≤ n → XB f n x0 d → d 36 6 = nI i → (∀ d', XTf d d' → (∀ j, j ≠ 6 → d' 36 j = d 36 j) → d' 36 6 = nI (sc P n i) → q d') → Cn SX MX3_pass [.ref 36, .int (nI lo), .int (nI hi)] d (rV q) := by
  suffices hs : ∀ k i d, n - i = k → i ≤ n → XB f n x0 d → d 36 6 = nI i → (∀ d', XTf d d' → (∀ j, j ≠ 6 → d' 36 j = d 36 j) → d' 36 6 = nI (sc P n i) → q d') → Ev SX MX3_pass 0 [.ref 36, .int (nI lo), .int (nI hi)] [] d (rV q) from fun k i d h1 h2 h3 h4 h5 => cn_X3_pass (hs k i d h1 h2 h3 h4 h5)
  intro k
  induction k with
  | zero =>
    intro i d hk hi9 hB h6 h
    obtain ⟨b1, b2, b3, b4, b5⟩ := id hB
    refine bk_X3_pass_0 (br_t ?_ (h d XTf.rf (fun _ _ => rfl) ?_))
    · rw [b3, h6]; exact nI_le (by omega) (by omega)
    · rw [sc_stop (fun z => by omega)]; exact h6
  | succ k ih =>
    intro i d hk hi9 hB h6 h
    obtain ⟨b1, b2, b3, b4, b5⟩ := id hB
    have hin : i < n := by omega
    refine bk_X3_pass_0 (br_f ?_ ?_)
    · rw [b3, h6]; exact fun c => absurd ((nI_leI (by omega) (by omega)).mp c) (by omega)
    rw [h6]
    refine ⟨vp_in_nI (by omega) (by omega), ?_⟩
    rw [nI_clamp (by omega), b4 i hin]
    have hf := b2 i hin
    by_cases c : lo ≤ f i ∧ f i ≤ hi
    · refine X_wlh lo hi (by omega) (by omega) (by omega) (fun _ => y1' (nm_e ?_)) (fun z => absurd c z)
      rw [h6, nI_1]
      refine ih (i + 1) _ (by omega) (by omega) (hB.up36 (by omega)) up_s (fun d' t1 t2 t3 => h d' ((XTf.up (by omega)).tr t1) (fun j hj => by rw [t2 j hj, up_n (by omega)]) ?_)
      rw [t3, sc_go hin (by rw [hP]; exact decide_eq_true c)]
    · refine X_wlh lo hi (by omega) (by omega) (by omega) (fun z => absurd z c) (fun _ => y0' (h d XTf.rf (fun _ _ => rfl) ?_))
      rw [sc_stop (fun z => c (of_decide_eq_true (by rw [← hP]; exact z.2)))]
      exact h6
theorem X_advance {q : DD → Prop} {x0 : DD} {f : Nat → Nat} {n i : Nat} {d : DD} (hi : i ≤ n) (hB : XB f n x0 d) (h6 : d 36 6 = nI i) (h : ∀ d', XTf d d' → XTk f n i d' → q d') : Cn SX MX3_advance [.ref 36] d (rV q) := by
  obtain ⟨b1, b2, b3, b4, b5⟩ := id hB
  -- behind the blanks
  have k38 : ∀ d1, XTf d d1 → d1 36 6 = nI (tP f n i) → Ev SX MX3_advance 38 [.ref 36] [] d1 (rV q) := by
    intro d1 t1 e6
    have hp := tP_le (f := f) hi
    have hB1 := hB.tf t1
    refine bk_X3_advance_38 (nm_e ?_)
    generalize ed : up d1 36 5 (d1 36 6) = d2
    have t2 : XTf d d2 := t1.tr (by rw [← ed]; exact XTf.up (by omega))
    have f5 : d2 36 5 = nI (tP f n i) := by rw [← ed, up_s, e6]
    have f6 : d2 36 6 = nI (tP f n i) := by rw [← ed, up_n (by omega), e6]
    have hB2 := hB.tf t2
    obtain ⟨-, -, c3, c4, -⟩ := id hB2
    clear ed
    by_cases hlt : tP f n i < n
    · refine br_t (by rw [f6, c3]; exact (nI_ltI (by omega) (by omega)).mpr hlt) ?_
      rw [f6]
      have vp : vp_in (nI (tP f n i)) 160 := vp_in_nI (by omega) (by omega)
      refine ⟨vp, ?_⟩
      rw [nI_clamp (by omega), c4 _ hlt]
      have hf := b2 _ hlt
      by_cases cl : 97 ≤ f (tP f n i) ∧ f (tP f n i) ≤ 122
      · refine X_wlh 97 122 (by omega) (by omega) (by omega) (fun _ => y1' (nm_e ?_)) (fun z => absurd cl z)
        have cl' : isLe f (tP f n i) = true := decide_eq_true cl
        refine X_pass (lo := 97) (hi := 122) (by omega) (by omega) (isLe f) (fun _ => rfl) _ (tP f n i) _ rfl hp (hB2.up36 (by omega)) (by rw [up_n (by omega)]; exact f6) (fun d' u1 u2 u3 => h d' (t2.tr ((XTf.up (by omega)).tr u1)) ⟨?_, ?_, ?_⟩)
        · rw [u2 4 (by omega), up_s]; unfold tK kAt; rw [if_pos hlt, if_pos cl']; rfl
        · rw [u2 5 (by omega), up_n (by omega)]; exact f5
        · rw [u3]; unfold tN nAt; rw [if_pos hlt, if_pos cl']
      · have cl' : ¬ isLe f (tP f n i) = true := fun z => cl (of_decide_eq_true z)
        refine X_wlh 97 122 (by omega) (by omega) (by omega) (fun z => absurd z cl) (fun _ => y0' ⟨by rw [f6]; exact vp, ?_⟩)
        rw [f6, nI_clamp (by omega), c4 _ hlt]
        by_cases cd : 48 ≤ f (tP f n i) ∧ f (tP f n i) ≤ 57
        · have cd' : isDi f (tP f n i) = true := decide_eq_true cd
          refine X_wlh 48 57 (by omega) (by omega) (by omega) (fun _ => y1' ?_) (fun z => absurd cd z)
          refine X_pass (lo := 48) (hi := 57) (by omega) (by omega) (isDi f) (fun _ => rfl) _ (tP f n i) _ rfl hp hB2 f6 (fun d' u1 u2 u3 => ?_)
          have e1 : tN f n i = sc (isDi f) n (tP f n i) := by unfold tN nAt; rw [if_pos hlt, if_neg cl', if_pos cd']
          have h1 := sc_ge (P := isDi f) (n := n) (i := tP f n i)
          have h2 := sc_le (P := isDi f) hp
          have e5 : d' 36 5 = nI (tP f n i) := by rw [u2 5 (by omega)]; exact f5
          rw [u3, e5, pk_sub h1]
          by_cases c2 : sc (isDi f) n (tP f n i) - tP f n i ≤ 2
          · refine br_f (fun z => absurd ((nI_ltI (a := 2) (by omega) (by omega)).mp z) (by omega)) (nm_e (h _ (t2.tr (u1.tr (XTf.up (by omega)))) ⟨?_, ?_, ?_⟩))
            · rw [up_s]; unfold tK kAt; rw [if_pos hlt, if_neg cl', if_pos cd', if_pos c2]; rfl
            · rw [up_n (by omega)]; exact e5
            · rw [up_n (by omega), u3, e1]
          · refine br_t ((nI_ltI (a := 2) (by omega) (by omega)).mpr (by omega)) (nm_e (h _ (t2.tr (u1.tr (XTf.up (by omega)))) ⟨?_, ?_, ?_⟩))
            · rw [up_s]; unfold tK kAt; rw [if_pos hlt, if_neg cl', if_pos cd', if_neg c2]; rfl
            · rw [up_n (by omega)]; exact e5
            · rw [up_n (by omega), u3, e1]
        · have cd' : ¬ isDi f (tP f n i) = true := fun z => cd (of_decide_eq_true z)
          refine X_wlh 48 57 (by omega) (by omega) (by omega) (fun z => absurd z cd) (fun _ => y0' ⟨by rw [f6]; exact vp, ?_⟩)
          rw [f6, nI_clamp (by omega), c4 _ hlt]
          have e1 : tN f n i = tP f n i + 1 := by unfold tN nAt; rw [if_pos hlt, if_neg cl', if_neg cd']
          by_cases cs : f (tP f n i) = 59
          · refine rr_t (by rw [cs]; rfl) (nm_e (nm_e (h _ (t2.tr ((XTf.up (by omega)).tr (XTf.up (by omega)))) ⟨?_, ?_, ?_⟩)))
            · rw [up_n (by omega), up_s]; unfold tK kAt; rw [if_pos hlt, if_neg cl', if_neg cd', if_pos cs]; rfl
            · rw [up_n (by omega), up_n (by omega)]; exact f5
            · rw [up_s, up_n (by omega), f6, nI_1, e1]
          · refine rr_f (lit_ne (b := 59) (by omega) (by omega) cs) (nm_e (nm_e (h _ (t2.tr ((XTf.up (by omega)).tr (XTf.up (by omega)))) ⟨?_, ?_, ?_⟩)))
            · rw [up_n (by omega), up_s]; unfold tK kAt; rw [if_pos hlt, if_neg cl', if_neg cd', if_neg cs]; rfl
            · rw [up_n (by omega), up_n (by omega)]; exact f5
            · rw [up_s, up_n (by omega), f6, nI_1, e1]
    · refine br_f (by rw [f6, c3]; exact fun z => absurd ((nI_ltI (by omega) (by omega)).mp z) (by omega)) (nm_e (h _ (t2.tr (XTf.up (by omega))) ⟨?_, ?_, ?_⟩))
      · rw [up_s]; unfold tK kAt; rw [if_neg hlt]; rfl
      · rw [up_n (by omega)]; exact f5
      · rw [up_n (by omega), f6]; unfold tN nAt; rw [if_neg hlt]
  refine cn_X3_advance ?_
  suffices hs : ∀ k j d1, n - j = k → j ≤ n → sc (isBl f) n j = tP f n i → XTf d d1 → d1 36 6 = nI j → Ev SX MX3_advance 0 [.ref 36] [] d1 (rV q) from hs _ i d rfl hi rfl XTf.rf h6
  intro k
  induction k with
  | zero =>
    intro j d1 hk hj hsc t1 e6
    refine bk_X3_advance_0 (br_t ?_ (k38 d1 t1 ?_))
    · rw [(hB.tf t1).2.2.1, e6]; exact nI_le (by omega) (by omega)
    · rw [e6, ← hsc, sc_stop (fun z => by omega)]
  | succ k ih =>
    intro j d1 hk hj hsc t1 e6
    have hjn : j < n := by omega
    have hB1 := hB.tf t1
    have hf := b2 _ hjn
    refine bk_X3_advance_0 (br_f ?_ ?_)
    · rw [hB1.2.2.1, e6]; exact fun c => absurd ((nI_leI (by omega) (by omega)).mp c) (by omega)
    rw [e6]
    refine ⟨vp_in_nI (by omega) (by omega), ?_⟩
    rw [nI_clamp (by omega), hB1.2.2.2.1 j hjn]
    by_cases c : f j = 32
    · refine rr_t (by rw [c]; rfl) (nm_e ?_)
      rw [nI_1]
      exact ih (j + 1) _ (by omega) (by omega) (by rw [← hsc, sc_go hjn (decide_eq_true c)]) (t1.tr (XTf.up (by omega))) up_s
    · refine rr_f (lit_ne (b := 32) (by omega) (by omega) c) (k38 d1 t1 ?_)
      rw [e6, ← hsc, sc_stop (fun z => c (of_decide_eq_true z.2))]
