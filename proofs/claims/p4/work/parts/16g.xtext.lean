/-- a line that is taken: on, and in its bounds -/
theorem sLn_r {w : Nat → Nat} {f : Nat → Nat} {n i i' : Nat} {H H' : HH} (hi : i ≤ n) (ok : OKw H) (h : sLn w f n i H = .inr (H', i')) : i < i' ∧ i' ≤ n ∧ OKw H' := by
  have tu : ∀ k, k ≤ 3 → tK f n i ≠ 0 → (if nT H < 4 then rTu w f n (tN f n i) k H else .inl (5, tP f n i)) = .inr (H', i') → i < i' ∧ i' ≤ n ∧ OKw H' := by
    intro k hk h0 e
    have st := stepN hi rfl h0
    by_cases c : nT H < 4
    · rw [if_pos c] at e
      unfold rTu at e
      rcases z1 : sNum f n 1 9 (tN f n i) with e1 | i1
      · rw [z1] at e; cases e
      rw [z1] at e
      have e : rB _ (sNum f n 0 9 i1) = .inr (H', i') := e
      rcases z2 : sNum f n 0 9 i1 with e1 | i2
      · rw [z2] at e; cases e
      rw [z2] at e
      have e : rB _ (sNum f n 0 9 i2) = .inr (H', i') := e
      rcases z3 : sNum f n 0 9 i2 with e1 | i3
      · rw [z3] at e; cases e
      rw [z3] at e
      have e : (match sNt w f n 8 1 i3 (g0 (tV f n i2)) with
        | .inl e => .inl e
        | .inr z => rB (fun i4 => .inr (aT H k (tV f n (tN f n i)) (tV f n i1) z.1 z.2.1, i4)) (sSgn f n z.2.2) : Rl) = .inr (H', i') := e
      rcases z4 : sNt w f n 8 1 i3 (g0 (tV f n i2)) with e1 | ⟨c', g', i4⟩
      · rw [z4] at e; cases e
      rw [z4] at e
      have e : rB _ (sSgn f n i4) = .inr (H', i') := e
      rcases z5 : sSgn f n i4 with e1 | i5
      · rw [z5] at e; cases e
      rw [z5] at e
      cases e
      obtain ⟨a1, a2, a3, a4⟩ := sNum_r z1
      obtain ⟨b1, b2, b3, b4⟩ := sNum_r z2
      obtain ⟨c1, c2, c3, c4⟩ := sNum_r z3
      have s1 := stepN st.2 a3 (by omega)
      have s2 := stepN s1.2 b3 (by omega)
      have s3 := stepN s2.2 c3 (by omega)
      obtain ⟨d1, d2, d3, d4, d5⟩ := sNt_r 8 1 i3 _ c' g' i4 rfl (by omega) (by omega) s3.2 (fun j hj => by
        show (if j = 0 then _ else 0) ≤ 9
        split
        · exact c2
        · omega) z4
      obtain ⟨f1, f2⟩ := sSgn_r z5
      have s4 := stepN d4 f1 (by omega)
      exact ⟨(by omega), s4.2, OKw_aT ok c hk ⟨a1, a2⟩ b2 ⟨d1, d2⟩ d5⟩
    · rw [if_neg c] at e; cases e
  have nk : ∀ k, nmK f n i k = true → tK f n i ≠ 0 := by
    intro k hk z
    unfold nmK at hk
    rw [Bool.and_eq_true] at hk
    have := of_decide_eq_true hk.1
    omega
  unfold sLn at h
  split at h
  · cases h
  split at h
  · rename_i c; exact tu 0 (by omega) (nk _ c) h
  split at h
  · rename_i c; exact tu 1 (by omega) (nk _ c) h
  split at h
  · rename_i c; exact tu 2 (by omega) (nk _ c) h
  split at h
  · rename_i c; exact tu 3 (by omega) (nk _ c) h
  split at h
  · rename_i c0
    have h0 := nk _ c0
    have st := stepN hi rfl h0
    by_cases c : nP H < 4
    · rw [if_pos c] at h
      unfold rPl at h
      rcases z1 : sNum f n 0 9 (tN f n i) with e1 | i1
      · rw [z1] at h; cases h
      rw [z1] at h
      have h : rB _ (sNum f n 1 99 i1) = .inr (H', i') := h
      rcases z2 : sNum f n 1 99 i1 with e1 | i2
      · rw [z2] at h; cases h
      rw [z2] at h
      have h : rB _ (sNum f n 0 9 i2) = .inr (H', i') := h
      rcases z3 : sNum f n 0 9 i2 with e1 | i3
      · rw [z3] at h; cases h
      rw [z3] at h
      have h : rB _ (sNum f n 0 3 i3) = .inr (H', i') := h
      rcases z4 : sNum f n 0 3 i3 with e1 | i4
      · rw [z4] at h; cases h
      rw [z4] at h
      have h : rB _ (sSgn f n i4) = .inr (H', i') := h
      rcases z5 : sSgn f n i4 with e1 | i5
      · rw [z5] at h; cases h
      rw [z5] at h
      cases h
      obtain ⟨a1, a2, a3, a4⟩ := sNum_r z1
      obtain ⟨b1, b2, b3, b4⟩ := sNum_r z2
      obtain ⟨c1, c2, c3, c4⟩ := sNum_r z3
      obtain ⟨d1, d2, d3, d4⟩ := sNum_r z4
      obtain ⟨f1, f2⟩ := sSgn_r z5
      have s1 := stepN st.2 a3 (by omega)
      have s2 := stepN s1.2 b3 (by omega)
      have s3 := stepN s2.2 c3 (by omega)
      have s4 := stepN s3.2 d3 (by omega)
      have s5 := stepN s4.2 f1 (by omega)
      exact ⟨(by omega), s5.2, OKw_aP ok c a2 ⟨b1, b2⟩ c2 d2⟩
    · rw [if_neg c] at h; cases h
  split at h
  · rename_i c0
    have h0 := nk _ c0
    have st := stepN hi rfl h0
    by_cases c : nB H < 6
    · rw [if_pos c] at h
      unfold rBd at h
      rcases z1 : sNum f n 0 3 (tN f n i) with e1 | i1
      · rw [z1] at h; cases h
      rw [z1] at h
      have h : rB _ (sSgn f n i1) = .inr (H', i') := h
      rcases z5 : sSgn f n i1 with e1 | i5
      · rw [z5] at h; cases h
      rw [z5] at h
      cases h
      obtain ⟨a1, a2, a3, a4⟩ := sNum_r z1
      obtain ⟨f1, f2⟩ := sSgn_r z5
      have s1 := stepN st.2 a3 (by omega)
      have s5 := stepN s1.2 f1 (by omega)
      exact ⟨(by omega), s5.2, OKw_aB ok c a2⟩
    · rw [if_neg c] at h; cases h
  · cases h
theorem XA.toS {f : Nat → Nat} {n i : Nat} {x0 d : DD} (h : XA f n x0 (.inr i) d) : XS f n x0 (.inr (tN f n i)) d := by
  obtain ⟨h1, h2, i', h3, h4, h5⟩ := h
  have := h5 i rfl
  subst this
  exact ⟨h1, h2, tN f n i, tN_le h3, h4.2.2, fun j e => by cases e; rfl⟩
theorem X_tellLine {q : DD → Prop} {x0 : DD} {f : Nat → Nat} {n i : Nat} {d : DD} {H : HH} (hA : XA f n x0 (.inr i) d) (hX : XH 12 d H) (ok : OKw H) (h : ∀ d', PLn f n x0 (sLn wX f n i H) d' → q d') : Cn SX MX3_tellLine [.ref 36, .ref 12] d (rV q) := by
  obtain ⟨hB, hF, i', hi, hT, hj⟩ := id hA
  have hii := hj i rfl
  subst hii
  have hn := hB.1
  have hK := tK_le (f := f) (n := n) (i := i)
  have hS := hA.toS
  have bad : ∀ c, 1 ≤ c → c ≤ 6 → sLn wX f n i H = .inl (c, tP f n i) → Cn SX MX3_fail [.ref 36, .int (nI c), .int (d 36 5)] d (rV fun d20 => q d20) := by
    intro c h1 h6 es
    exact X_failT hA h1 h6 fun d' g1 g2 g3 => h d' (by rw [es]; exact g1)
  have tu : ∀ k, k ≤ 3 → sLn wX f n i H = (if nT H < 4 then rTu wX f n (tN f n i) k H else .inl (5, tP f n i)) → Cn SX MX3_tellTune [.ref 36, .ref 12, .int (nI k)] d (rV fun d26 => q d26) := by
    intro k hk es
    by_cases c : nT H < 4
    · rw [if_pos c] at es
      exact X_tellTune hS hX ok.o8 hk c (fun d' s o => h d' (by rw [es]; exact PL_Tu s o))
    · rw [if_neg c] at es
      refine cn_X3_tellTune isH12 (br_f ?_ (bad 5 (by omega) (by omega) es))
      rw [hX.nt]
      have := ok.1
      exact fun z => absurd ((nI_ltI (b := 4) (by omega) (by omega)).mp z) c
  have nm : ∀ k, k < 6 → ∀ {A B : DD → Prop}, (nmK f n i k = true → B d) → (nmK f n i k = false → A d) → Cn SX MX3_isName [.ref 36, .ref (1000 + k)] d (rI fun r3 d2 => (r3 = 0 → A d2) ∧ (¬ r3 = 0 → B d2)) := by
    intro k hk A B hb ha
    refine X_isName hB hi hT hk ?_
    cases hm : nmK f n i k
    · have hm' : (decide (tK f n i = 1) && nmI f k (tP f n i) (tN f n i)) = false := hm
      rw [hm']; exact y0' (ha hm)
    · have hm' : (decide (tK f n i = 1) && nmI f k (tP f n i) (tN f n i)) = true := hm
      rw [hm']; exact y1' (hb hm)
  refine cn_X3_tellLine isH12 ?_
  rw [hT.1]
  by_cases c4 : tK f n i = 4
  · refine rr_t (by rw [c4]; rfl) (bad 1 (by omega) (by omega) ?_)
    unfold sLn; rw [if_pos c4]
  refine rr_f (lit_ne (b := 4) (by omega) (by omega) c4) ?_
  refine nm 0 (by omega) (fun z => tu 0 (by omega) (by unfold sLn; rw [if_neg c4, if_pos z])) (fun z0 => ?_)
  refine nm 1 (by omega) (fun z => tu 1 (by omega) (by unfold sLn; rw [if_neg c4, if_neg (by rw [z0]; decide), if_pos z])) (fun z1 => ?_)
  refine nm 2 (by omega) (fun z => tu 2 (by omega) (by unfold sLn; rw [if_neg c4, if_neg (by rw [z0]; decide), if_neg (by rw [z1]; decide), if_pos z])) (fun z2 => ?_)
  refine nm 3 (by omega) (fun z => tu 3 (by omega) (by unfold sLn; rw [if_neg c4, if_neg (by rw [z0]; decide), if_neg (by rw [z1]; decide), if_neg (by rw [z2]; decide), if_pos z])) (fun z3 => ?_)
  refine nm 4 (by omega) (fun z => ?_) (fun z4 => ?_)
  · have es : sLn wX f n i H = if nP H < 4 then rPl f n (tN f n i) H else .inl (5, tP f n i) := by unfold sLn; rw [if_neg c4, if_neg (by rw [z0]; decide), if_neg (by rw [z1]; decide), if_neg (by rw [z2]; decide), if_neg (by rw [z3]; decide), if_pos z]
    by_cases c : nP H < 4
    · rw [if_pos c] at es
      exact X_tellPlayer hS hX c (fun d' s o => h d' (by rw [es]; exact PL_Pl s o))
    · rw [if_neg c] at es
      refine cn_X3_tellPlayer isH12 (br_f ?_ (bad 5 (by omega) (by omega) es))
      rw [hX.np]
      have := ok.2.1
      exact fun z => absurd ((nI_ltI (b := 4) (by omega) (by omega)).mp z) c
  refine nm 5 (by omega) (fun z => ?_) (fun z5 => ?_)
  · have es : sLn wX f n i H = if nB H < 6 then rBd f n (tN f n i) H else .inl (5, tP f n i) := by unfold sLn; rw [if_neg c4, if_neg (by rw [z0]; decide), if_neg (by rw [z1]; decide), if_neg (by rw [z2]; decide), if_neg (by rw [z3]; decide), if_neg (by rw [z4]; decide), if_pos z]
    by_cases c : nB H < 6
    · rw [if_pos c] at es
      exact X_tellBound hS hX c (fun d' s o => h d' (by rw [es]; exact PL_Bd s o))
    · rw [if_neg c] at es
      refine cn_X3_tellBound isH12 (br_f ?_ (bad 5 (by omega) (by omega) es))
      rw [hX.nb]
      have := ok.2.2.1
      exact fun z => absurd ((nI_ltI (b := 6) (by omega) (by omega)).mp z) c
  · refine bad 2 (by omega) (by omega) ?_
    unfold sLn; rw [if_neg c4, if_neg (by rw [z0]; decide), if_neg (by rw [z1]; decide), if_neg (by rw [z2]; decide), if_neg (by rw [z3]; decide), if_neg (by rw [z4]; decide), if_neg (by rw [z5]; decide)]
/-- all tunes that are named are there -/
def allI (H : HH) : Bool := (List.range (nP H)).all (fun p => decide (H 8 p < nT H)) && (List.range (nB H)).all (fun q => decide (H 9 q < nT H))
theorem allI_t {H : HH} (h1 : ∀ p, p < nP H → H 8 p < nT H) (h2 : ∀ q, q < nB H → H 9 q < nT H) : allI H = true := by
  unfold allI
  rw [Bool.and_eq_true, List.all_eq_true, List.all_eq_true]
  exact ⟨fun p hp => decide_eq_true (h1 p (List.mem_range.mp hp)), fun p hp => decide_eq_true (h2 p (List.mem_range.mp hp))⟩
theorem allI_r {H : HH} (h : allI H = true) : (∀ p, p < nP H → H 8 p < nT H) ∧ ∀ q, q < nB H → H 9 q < nT H := by
  unfold allI at h
  rw [Bool.and_eq_true, List.all_eq_true, List.all_eq_true] at h
  exact ⟨fun p hp => of_decide_eq_true (h.1 p (List.mem_range.mpr hp)), fun p hp => of_decide_eq_true (h.2 p (List.mem_range.mpr hp))⟩
theorem allI_f {H : HH} (h : (∃ p, p < nP H ∧ ¬ H 8 p < nT H) ∨ ∃ q, q < nB H ∧ ¬ H 9 q < nT H) : allI H = false := by
  rw [Bool.eq_false_iff]
  intro z
  obtain ⟨h1, h2⟩ := allI_r z
  rcases h with ⟨p, a, b⟩ | ⟨p, a, b⟩
  · exact b (h1 p a)
  · exact b (h2 p a)
theorem X_hasT {q : Int32 → DD → Prop} {d : DD} {H : HH} {v : Nat} (hX : XH 12 d H) (h4 : nT H ≤ 4) (hv : v < 2 ^ 31) (h : q (b2 (decide (v < nT H))) d) : Cn SX MX0_hasTune [.ref 12, .int (nI v)] d (rI q) := by
  refine cn_X0_hasTune isH12 ?_
  rw [hX.nt]
  refine X_wil (by omega) (fun j hj e => ⟨nb_1, ?_⟩) (fun z => ⟨nb_0, ?_⟩)
  · have := nI_inj hv (by omega) e
    subst this
    rw [decide_eq_true hj] at h; exact h
  · rw [decide_eq_false (fun y => z v y rfl)] at h; exact h
theorem X_allThere {q : Int32 → DD → Prop} {d : DD} {H : HH} (hX : XH 12 d H) (ok : OKw H) (h : q (b2 (allI H)) d) : Cn SX MX0_allTunesAreThere [.ref 12] d (rI q) := by
  obtain ⟨o1, o2, o3, o4, o5, o6⟩ := ok
  refine cn_X0_allTunesAreThere isH12 ?_
  -- the prisoners
  have k33 : (∀ p, p < nP H → H 8 p < nT H) → ∀ r k, r + k = nB H → (∀ y, y < k → H 9 y < nT H) → Ev SX MX0_allTunesAreThere 33 [.ref 12, .int (nI k)] [] d (rI q) := by
    intro hp r
    induction r with
    | zero =>
      intro k hk ha
      refine bk_X0_allTunesAreThere_33 isH12 (br_t ?_ ?_)
      · rw [hX.nb]; exact nI_le (by omega) (by omega)
      · rw [allI_t hp (fun y hy => ha y (by omega))] at h; exact h
    | succ r ih =>
      intro k hk ha
      have hkb : k < nB H := by omega
      have h9 := o6 k hkb
      refine bk_X0_allTunesAreThere_33 isH12 (br_f ?_ ⟨vp_in_nI (by omega) (by omega), ?_⟩)
      · rw [hX.nb]; exact fun z => absurd ((nI_leI (by omega) (by omega)).mp z) (by omega)
      rw [nI_clamp (by omega), hX.bond hkb, nI_1]
      refine X_hasT hX o1 (by omega) ?_
      by_cases c : H 9 k < nT H
      · rw [decide_eq_true c]
        exact y1 (ih (k + 1) (by omega) (fun y hy => by
          by_cases cy : y = k
          · rw [cy]; exact c
          · exact ha y (by omega)))
      · rw [decide_eq_false c]
        rw [allI_f (Or.inr ⟨k, hkb, c⟩)] at h
        exact y0 h
  rw [li_0]
  suffices hs : ∀ r k, r + k = nP H → (∀ y, y < k → H 8 y < nT H) → Ev SX MX0_allTunesAreThere 2 [.ref 12, .int (nI k)] [] d (rI q) from hs _ 0 (Nat.add_zero _) (fun y hy => absurd hy (Nat.not_lt_zero y))
  intro r
  induction r with
  | zero =>
    intro k hk ha
    refine bk_X0_allTunesAreThere_2 isH12 (br_t ?_ (k33 (fun y hy => ha y (by omega)) _ 0 (Nat.add_zero _) (fun y hy => absurd hy (Nat.not_lt_zero y))))
    rw [hX.np]; exact nI_le (by omega) (by omega)
  | succ r ih =>
    intro k hk ha
    have hkb : k < nP H := by omega
    have h9 := (o5 k hkb).2.2.2.2
    refine bk_X0_allTunesAreThere_2 isH12 (br_f ?_ ⟨vp_in_nI (by omega) (by omega), ?_⟩)
    · rw [hX.np]; exact fun z => absurd ((nI_leI (by omega) (by omega)).mp z) (by omega)
    rw [nI_clamp (by omega), hX.at hkb, nI_1]
    refine X_hasT hX o1 (by omega) ?_
    by_cases c : H 8 k < nT H
    · rw [decide_eq_true c]
      exact y1 (ih (k + 1) (by omega) (fun y hy => by
        by_cases cy : y = k
        · rw [cy]; exact c
        · exact ha y (by omega)))
    · rw [decide_eq_false c]
      rw [allI_f (Or.inl ⟨k, hkb, c⟩)] at h
      exact y0 h
/-- all lines: a FAULT, or the house, how many, the place of the end -/
def sAll (w : Nat → Nat) (f : Nat → Nat) (n : Nat) : Nat → Nat → HH → Nat → Sum (Nat × Nat) (HH × Nat)
  | 0, _, H, l => .inr (H, l)
  | r + 1, i, H, l => if tK f n i = 0 then .inr (H, l) else match sLn w f n i H with
    | .inl e => .inl e
    | .inr z => sAll w f n r z.2 z.1 (l + 1)
def sTot (w : Nat → Nat) (f : Nat → Nat) (n : Nat) (s : Sum (Nat × Nat) (HH × Nat)) : Sum (Nat × Nat) (HH × Nat) := match s with
  | .inl e => .inl e
  | .inr z => if allI z.1 = true then .inr z else .inl (6, n)
/-- the class's end of all -/
def PAl (f : Nat → Nat) (n : Nat) (x0 : DD) (R : Sum (Nat × Nat) (HH × Nat)) (r : Int32) (d : DD) : Prop := match R with
  | .inl e => r = (-10) - nI e.2 ∧ XB f n x0 d ∧ FO n (some e) d
  | .inr z => r = nI z.2 ∧ z.2 ≤ 160 ∧ XB f n x0 d ∧ FO n none d ∧ XH 12 d z.1 ∧ OKw z.1
theorem X_all_56b {q : Int32 → DD → Prop} {x0 : DD} {f : Nat → Nat} {n : Nat} {d : DD} {e : Nat × Nat} {l2 : Int32} (hA : XA f n x0 (.inl e) d) (h : ∀ r d', PAl f n x0 (.inl e) r d' → q r d') : Ev SX MX3_tellAll 56 [.ref 36, .ref 12, .int l2] [] d (rI q) := by
  obtain ⟨hB, hF, -⟩ := hA
  obtain ⟨k1, k2, k3⟩ := id hF
  have nz : ¬ d 36 2 = 0 := by rw [k2]; exact lit_ne (b := 0) (by have := k1.2.1; omega) (by omega) (by have := k1.1; omega)
  refine bk_X3_tellAll_56 isH12 (rr_f nz (rr_f nz (h _ d ⟨?_, hB, hF⟩)))
  rw [k3]
theorem X_all_20 {q : Int32 → DD → Prop} {x0 : DD} {f : Nat → Nat} {n : Nat} : ∀ r i H l d, n - i < r → l ≤ i → XA f n x0 (.inr i) d → XH 12 d H → OKw H → (∀ r' d', PAl f n x0 (sTot wX f n (sAll wX f n r i H l)) r' d' → q r' d') → Ev SX MX3_tellAll 20 [.ref 36, .ref 12, .int (nI l)] [] d (rI q) := by
  intro r
  induction r with
  | zero => intro i H l d h1; omega
  | succ r ih =>
    intro i H l d hr hl hA hX ok h
    obtain ⟨hB, hF, i', hi, hT, hj⟩ := id hA
    have hii := hj i rfl
    subst hii
    have hn := hB.1
    have hK := tK_le (f := f) (n := n) (i := i)
    have e2 : d 36 2 = 0 := hF
    refine bk_X3_tellAll_20 isH12 (rr_t e2 ?_)
    rw [hT.1]
    by_cases c0 : tK f n i = 0
    · have es : sAll wX f n (r + 1) i H l = .inr (H, l) := by show (if tK f n i = 0 then _ else _) = _; rw [if_pos c0]
      rw [es] at h
      refine br_t (by rw [c0]; rfl) (bk_X3_tellAll_56 isH12 (rr_t e2 (X_allThere hX ok ?_)))
      cases ha : allI H
      · have et : sTot wX f n (.inr (H, l)) = .inl (6, n) := by show (if allI H = true then _ else _) = _; rw [if_neg (by rw [ha]; decide)]
        rw [et] at h
        refine y0 ?_
        rw [hB.2.2.1]
        refine X_fail (c := 6) hF hn (by omega) (by omega) (Nat.le_refl n) (fun d' g1 g2 g3 => ?_)
        have g1' : FO n (some (6, n)) d' := g1
        have nz : ¬ d' 36 2 = 0 := by rw [g1'.2.1]; exact lit_ne (b := 0) (by omega) (by omega) (by omega)
        refine rr_f nz (h _ d' ⟨by rw [g1'.2.2], ⟨hB.1, hB.2.1, by rw [g3 1 (by omega) (by omega)]; exact hB.2.2.1, fun k hk => by rw [g2 37 (by omega)]; exact hB.2.2.2.1 k hk, fun a ha hb => by rw [g2 a ha]; exact hB.2.2.2.2 a ha hb⟩, g1'⟩)
      · have et : sTot wX f n (.inr (H, l)) = .inr (H, l) := by show (if allI H = true then _ else _) = _; rw [if_pos ha]
        rw [et] at h
        exact y1 (rr_t e2 (h _ d ⟨rfl, (by omega), hB, hF, hX, ok⟩))
    · have es : sAll wX f n (r + 1) i H l = match sLn wX f n i H with
          | .inl e => .inl e
          | .inr z => sAll wX f n r z.2 z.1 (l + 1) := by show (if tK f n i = 0 then _ else _) = _; rw [if_neg c0]
      rw [es] at h
      have hpn : tP f n i ≠ n := fun z => c0 ((tK0 hi).mpr z)
      have := tP_le (f := f) hi
      have := tP_ge (f := f) (n := n) (i := i)
      refine br_f (lit_ne (b := 0) (by omega) (by omega) c0) (br_f (fun z => absurd ((nI_leI (a := 160) (by omega) (by omega)).mp z) (by omega)) (X_tellLine hA hX ok (fun d1 hP => ?_)))
      rw [nI_1]
      rcases hs : sLn wX f n i H with e | ⟨H', i'⟩
      · rw [hs] at hP h
        have hP : XS f n x0 (.inl e) d1 := hP
        refine X_adv hP (fun d2 hA2 _ => ?_)
        obtain ⟨-, hF2, -⟩ := id hA2
        obtain ⟨k1, k2, k3⟩ := hF2
        have nz : ¬ d2 36 2 = 0 := by rw [k2]; exact lit_ne (b := 0) (by have := k1.2.1; omega) (by omega) (by have := k1.1; omega)
        exact bk_X3_tellAll_20 isH12 (rr_f nz (X_all_56b hA2 h))
      · rw [hs] at hP h
        obtain ⟨hS1, hX1⟩ : XS f n x0 (.inr i') d1 ∧ XH 12 d1 H' := hP
        obtain ⟨g1, g2, g3⟩ := sLn_r hi ok hs
        refine X_adv hS1 (fun d2 hA2 f2 => ih i' H' (l + 1) d2 (by omega) (by omega) hA2 (hX1.kept (fun a b1 b2 => f2 a (by omega))) g3 h)
def Hnil : HH := fun _ _ => 0
theorem OKw_nil : OKw Hnil := ⟨Nat.zero_le _, Nat.zero_le _, Nat.zero_le _, fun t h => absurd h (Nat.not_lt_zero t), fun t h => absurd h (Nat.not_lt_zero t), fun t h => absurd h (Nat.not_lt_zero t)⟩
/-- all of it, purely -/
def sTxt (w : Nat → Nat) (f : Nat → Nat) (n : Nat) : Sum (Nat × Nat) (HH × Nat) := sTot w f n (sAll w f n 161 0 Hnil 0)
theorem X_tellAll {q : Int32 → DD → Prop} {x0 : DD} {f : Nat → Nat} {n : Nat} (hB : XB f n x0 x0) (h : ∀ r d', PAl f n x0 (sTxt wX f n) r d' → q r d') : Cn SX MX3_tellAll [.ref 36, .ref 12] x0 (rI q) := by
  have hn := hB.1
  refine cn_X3_tellAll isH12 (cn_X0_clear isH12 (nm_e (nm_e (nm_e (nm_e (nm_e ?_))))))
  generalize ed : up (up (up (up (up x0 12 0 0) 12 1 0) 12 2 0) 36 2 0) 36 6 0 = d
  have c12 : ∀ j, j < 3 → d 12 j = 0 := by
    intro j hj
    rw [← ed]
    rcases (show j = 0 ∨ j = 1 ∨ j = 2 by omega) with rfl | rfl | rfl
    · rw [up_n (by omega), up_n (by omega), up_n (by omega), up_n (by omega), up_s]
    · rw [up_n (by omega), up_n (by omega), up_n (by omega), up_s]
    · rw [up_n (by omega), up_n (by omega), up_s]
  have hB2 : XB f n x0 d := by
    rw [← ed]
    exact ((hB.put (d' := up (up (up x0 12 0 0) 12 1 0) 12 2 0) (fun a ha => by rw [up_ne a (by omega), up_ne a (by omega), up_ne a (by omega)])).up36 (by omega)).up36 (by omega)
  have hS : XS f n x0 (.inr 0) d := ⟨hB2, by show d 36 2 = nI 0; rw [← ed, up_n (by omega), up_s]; rfl, 0, Nat.zero_le _, by rw [← ed, up_s]; rfl, fun j e => by cases e; rfl⟩
  have hX : XH 12 d Hnil := ⟨c12 0 (by omega), c12 1 (by omega), c12 2 (by omega), fun t h => absurd h (Nat.not_lt_zero t), fun t h => absurd h (Nat.not_lt_zero t), fun t h => absurd h (Nat.not_lt_zero t)⟩
  refine X_adv hS (fun d1 hA f1 => X_all_20 161 0 Hnil 0 d1 (by omega) (by omega) hA (hX.kept (fun a b1 b2 => f1 a (by omega))) OKw_nil h)
