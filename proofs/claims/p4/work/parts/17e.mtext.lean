theorem M_in5 {q : Int32 → DD → Prop} {d : DD} {k : Nat} (hk : k < 6) (h : q 1 d) : Cn SM MX5_in [.long (nI k).toInt64, .long 0, .long 5] d (rI q) := M_wlh 0 5 (by omega) (by omega) (by omega) (fun _ => h) (fun z => absurd ⟨Nat.zero_le _, (by omega)⟩ z)
theorem M_in5n {q : Int32 → DD → Prop} {d : DD} (h : q 0 d) : Cn SM MX5_in [.long ((-4 : Int32)).toInt64, .long 0, .long 5] d (rI q) := M_wm4 (lo := 0) (hi := 5) (by omega) h
theorem rB_4 {α : Type} {f : Nat → Nat} {n lo hi i : Nat} {g : Nat → Sum (Nat × Nat) α} (h : tK f n i = 4) : rB g (sNum f n lo hi i) = .inl (1, tP f n i) := by
  unfold sNum; rw [if_pos h]; rfl
theorem M_readLine {q : DD → Prop} {m0 : DD} {f : Nat → Nat} {n i h0 : Nat} {d : DD} {H : HH} (hS : YS f n m0 (.inr i) d) (c4 : tK f n i ≠ 4) (hY : Y2 d H h0) (ok : OKw H) (h : ∀ d', PY f n m0 (sLn wM f n i H) d' → q d') : Cn SM MX5_readLine [.ref 0] d (rV q) := by
  obtain ⟨hB, hi, hT⟩ := id hS
  have hp := tP_le (f := f) hi
  have hTn := hT
  unfold YT at hTn; rw [if_neg c4] at hTn
  obtain ⟨t12, t14, t15, t16, t17⟩ := hTn
  have z12 : d 0 12 = 0 := t12
  have hN := tN_le (f := f) hi
  -- a FAULT here
  have badE : ∀ c, 1 ≤ c → c ≤ 6 → YS f n m0 (.inl (c, tP f n i)) (up (up d 0 12 (nI c)) 0 13 (d 0 15)) := fun c h1 h6 => ⟨hB.tf hB.t5, ⟨h1, h6, hp⟩, by rw [up_n (by omega), up_s], by rw [up_s]; exact t15⟩
  have bad5 : ∀ k, sLn wM f n i H = .inl (5, tP f n i) → Cn SM MX5_fails [.ref 0, .int (nI 5)] d (rV fun d3 => Ev SM MX5_readLine 68 [.ref 0, .int (nI k)] [] d3 (rV q)) := by
    intro k es
    refine M_fails (c := 5) (fun _ => ?_) (fun y => absurd z12 y)
    have hb := badE 5 (by omega) (by omega)
    have he : YE n (5, tP f n i) _ := hb.2
    exact bk_X5_readLine_68 (cn_X5_step (br_f he.nle (br_f he.nle (h _ (by rw [es]; exact hb)))))
  -- the rest of a line
  have k68 : ∀ k (R : Rl), sLn wM f n i H = R → (tK f n (tN f n i) = 4 → R = .inl (1, tP f n (tN f n i))) → (∀ d1, YS f n m0 (.inr (tN f n i)) d1 → Y2 d1 H h0 → ∀ q2 : DD → Prop, (∀ d3, (∃ σ, YS f n m0 σ d3 ∧ ∀ d4, YS f n m0 (sB (sSgn f n) σ) d4 → YTf d3 d4 → PY f n m0 R d4) → q2 d3) → Cn SM MX5_readMore [.ref 0, .int (nI k)] d1 (rV q2)) → Ev SM MX5_readLine 68 [.ref 0, .int (nI k)] [] d (rV q) := by
    intro k R es h4 hm
    refine bk_X5_readLine_68 (M_stepS (σ := .inr (tN f n i)) ⟨hB, hN, t12, t14⟩ (fun d1 s1 tt => ?_))
    obtain ⟨hB1, hi1, hT1⟩ := id s1
    by_cases c : tK f n (tN f n i) = 4
    · have hT4 := hT1
      unfold YT at hT4; rw [if_pos c] at hT4
      have he : YE n (1, tP f n (tN f n i)) d1 := ⟨⟨Nat.le_of_ble_eq_true rfl, Nat.le_of_ble_eq_true rfl, tP_le hN⟩, hT4.1, hT4.2⟩
      exact br_f he.nle (h d1 (by rw [es, h4 c]; exact ⟨hB1, he⟩))
    · have hT4 := hT1
      unfold YT at hT4; rw [if_neg c] at hT4
      refine br_t (by rw [hT4.1]; exact nI_le (a := 0) (b := 0) (by omega) (by omega)) (hm d1 s1 (hY.tf tt) _ (fun d3 hd3 => ?_))
      obtain ⟨σ, s3, fin⟩ := hd3
      exact M_sgnS s3 (fun d4 s4 t4 => h d4 (by rw [es]; exact fin d4 s4 t4))
  refine cn_X5_readLine (M_nameHere hB hi c4 hT (fun k hk6 hk ha => M_in5 hk6 (y1 ?_)) (fun ha => M_in5n (y0 (M_fails (c := 2) (fun _ => h _ ?_) (fun y => absurd z12 y)))))
  · by_cases c3 : 3 < k
    · refine br_t ((nI_ltI (a := 3) (by omega) (by omega)).mpr c3) (bk_X5_readLine_36 ?_)
      by_cases ck4 : k = 4
      · subst ck4
        have a0 := ha 0 (by omega); have a1 := ha 1 (by omega); have a2 := ha 2 (by omega); have a3 := ha 3 (by omega)
        have es : sLn wM f n i H = if nP H < 4 then rPl f n (tN f n i) H else .inl (5, tP f n i) := by unfold sLn; rw [if_neg c4, if_neg (by rw [a0]; decide), if_neg (by rw [a1]; decide), if_neg (by rw [a2]; decide), if_neg (by rw [a3]; decide), if_pos hk]
        refine rr_t rfl ?_
        rw [hY.2.1]
        by_cases c : nP H < 4
        · rw [if_pos c] at es
          refine br_f (lit_ne (b := 4) (by omega) (by omega) (by omega)) (bk_X5_readLine_49 (rr_f (by decide) (k68 4 _ es (fun z => rB_4 z) (fun d1 s1 y1 q2 hq => M_pl s1 y1 ok c (fun d3 s3 o3 => hq d3 ⟨_, s3, fun d4 s4 t4 => PY_Pl s4 t4 o3⟩)))))
        · rw [if_neg c] at es
          have := ok.2.1
          exact br_t (by rw [show nP H = 4 by omega]; rfl) (bad5 4 es)
      · have ck5 : k = 5 := by omega
        subst ck5
        have a0 := ha 0 (by omega); have a1 := ha 1 (by omega); have a2 := ha 2 (by omega); have a3 := ha 3 (by omega); have a4 := ha 4 (by omega)
        have es : sLn wM f n i H = if nB H < 6 then rBd f n (tN f n i) H else .inl (5, tP f n i) := by unfold sLn; rw [if_neg c4, if_neg (by rw [a0]; decide), if_neg (by rw [a1]; decide), if_neg (by rw [a2]; decide), if_neg (by rw [a3]; decide), if_neg (by rw [a4]; decide), if_pos hk]
        refine rr_f (by decide) (bk_X5_readLine_49 (rr_t rfl ?_))
        rw [hY.2.2.1]
        by_cases c : nB H < 6
        · rw [if_pos c] at es
          refine rr_f (lit_ne (b := 6) (by omega) (by omega) (by omega)) (k68 5 _ es (fun z => rB_4 z) (fun d1 s1 y1 q2 hq => M_bd s1 y1 ok c (fun d3 s3 o3 => hq d3 ⟨_, s3, fun d4 s4 t4 => PY_Bd s4 t4 o3⟩)))
        · rw [if_neg c] at es
          have := ok.2.2.1
          exact rr_t (by rw [show nB H = 6 by omega]; rfl) (bad5 5 es)
    · have k3 : k ≤ 3 := by omega
      have es : sLn wM f n i H = if nT H < 4 then rTu wM f n (tN f n i) k H else .inl (5, tP f n i) := by
        unfold sLn
        rw [if_neg c4]
        rcases (show k = 0 ∨ k = 1 ∨ k = 2 ∨ k = 3 by omega) with rfl | rfl | rfl | rfl
        · rw [if_pos hk]
        · rw [if_neg (by rw [ha 0 (by omega)]; decide), if_pos hk]
        · rw [if_neg (by rw [ha 0 (by omega)]; decide), if_neg (by rw [ha 1 (by omega)]; decide), if_pos hk]
        · rw [if_neg (by rw [ha 0 (by omega)]; decide), if_neg (by rw [ha 1 (by omega)]; decide), if_neg (by rw [ha 2 (by omega)]; decide), if_pos hk]
      refine br_f (fun z => absurd ((nI_ltI (a := 3) (by omega) (by omega)).mp z) c3) ?_
      rw [hY.1]
      by_cases c : nT H < 4
      · rw [if_pos c] at es
        refine br_f (lit_ne (b := 4) (by omega) (by omega) (by omega)) (bk_X5_readLine_36 (rr_f (lit_ne (b := 4) (by omega) (by omega) (by omega)) (bk_X5_readLine_49 (rr_f (lit_ne (b := 5) (by omega) (by omega) (by omega)) (k68 k _ es (fun z => rB_4 z) (fun d1 s1 y1 q2 hq => M_tu s1 y1 ok k3 c (fun d3 s3 o3 => hq d3 ⟨_, s3, fun d4 s4 t4 => PY_Tu s4 t4 o3⟩)))))))
      · rw [if_neg c] at es
        have := ok.1
        exact br_t (by rw [show nT H = 4 by omega]; rfl) (bad5 k es)
  · have es : sLn wM f n i H = .inl (2, tP f n i) := by
      unfold sLn
      rw [if_neg c4, if_neg (by rw [ha 0 (by omega)]; decide), if_neg (by rw [ha 1 (by omega)]; decide), if_neg (by rw [ha 2 (by omega)]; decide), if_neg (by rw [ha 3 (by omega)]; decide), if_neg (by rw [ha 4 (by omega)]; decide), if_neg (by rw [ha 5 (by omega)]; decide)]
    rw [es]; exact badE 2 (by omega) (by omega)
/-- the reference's end of the reading -/
def PYl (f : Nat → Nat) (n : Nat) (m0 : DD) (R : Sum (Nat × Nat) (HH × Nat)) (l : Int32) (d : DD) : Prop := match R with
  | .inl e => YB f n m0 d ∧ YE n e d
  | .inr z => l = nI z.2 ∧ z.2 ≤ 160 ∧ YB f n m0 d ∧ d 0 12 = nI 0 ∧ (∃ h, Y2 d z.1 h) ∧ OKw z.1
theorem HI.all {H : HH} {h : Nat} (y : HI H h) : allI H = decide (h ≤ nT H) := by
  obtain ⟨h1, h2, h3, h4⟩ := y
  by_cases c : h ≤ nT H
  · rw [decide_eq_true c]
    exact allI_t (fun p hp => by have := h1 p hp; omega) (fun q hq => by have := h2 q hq; omega)
  · rw [decide_eq_false c, Bool.eq_false_iff]
    intro z
    obtain ⟨a, b⟩ := allI_r z
    exact c (h4 _ a b)
theorem M_all_81b {q : Int32 → DD → Prop} {m0 : DD} {f : Nat → Nat} {n : Nat} {d : DD} {e : Nat × Nat} {l1 l2 : Int32} (hB : YB f n m0 d) (he : YE n e d) (h : ∀ l d', PYl f n m0 (.inl e) l d' → Ev SM MX5_text 105 [.ref 0, .int l, .int l2] [] d' (rI q)) : Ev SM MX5_text 81 [.ref 0, .int l1, .int l2] [] d (rI q) :=
  bk_X5_text_81 (rr_f he.nz (h l1 d ⟨hB, he⟩))
theorem M_all_57 {q : Int32 → DD → Prop} {m0 : DD} {f : Nat → Nat} {n : Nat} {l2 : Int32} : ∀ r i H h0 l d, n - i < r → l ≤ i → YS f n m0 (.inr i) d → Y2 d H h0 → OKw H → (∀ l' d', PYl f n m0 (sTot wM f n (sAll wM f n r i H l)) l' d' → Ev SM MX5_text 105 [.ref 0, .int l', .int l2] [] d' (rI q)) → Ev SM MX5_text 57 [.ref 0, .int (nI l), .int l2] [] d (rI q) := by
  intro r
  induction r with
  | zero => intro i H h0 l d h1; omega
  | succ r ih =>
    intro i H h0 l d hr hl hS hY ok h
    obtain ⟨hB, hi, hT⟩ := id hS
    have hn := hB.1
    have hK := tK_le (f := f) (n := n) (i := i)
    have hp := tP_le (f := f) hi
    by_cases c4 : tK f n i = 4
    · have hT4 := hT
      unfold YT at hT4; rw [if_pos c4] at hT4
      have he : YE n (1, tP f n i) d := ⟨⟨Nat.le_of_ble_eq_true rfl, Nat.le_of_ble_eq_true rfl, hp⟩, hT4.1, hT4.2⟩
      have es : sAll wM f n (r + 1) i H l = .inl (1, tP f n i) := by
        have e0 : sLn wM f n i H = .inl (1, tP f n i) := if_pos c4
        rw [sAll, if_neg (show ¬ tK f n i = 0 by omega), e0]
      rw [es] at h
      exact bk_X5_text_57 (rr_f he.nz (M_all_81b hB he h))
    · have hTn := hT
      unfold YT at hTn; rw [if_neg c4] at hTn
      obtain ⟨t12, t14, t15, t16, t17⟩ := hTn
      have z12 : d 0 12 = 0 := t12
      refine bk_X5_text_57 (rr_t z12 ?_)
      rw [t16]
      by_cases c0 : tK f n i = 0
      · have es : sAll wM f n (r + 1) i H l = .inr (H, l) := by show (if tK f n i = 0 then _ else _) = _; rw [if_pos c0]
        rw [es] at h
        refine br_t (by rw [c0]; rfl) (bk_X5_text_81 (rr_t z12 ?_))
        have h8 := hY.2.2.2.2.2.2.1
        have hI := hY.2.2.2.2.2.2.2
        have hle := hI.2.2.1
        have o1 := ok.1
        rw [h8, hY.1]
        have hall := hI.all
        by_cases c : h0 ≤ nT H
        · have et : sTot wM f n (.inr (H, l)) = .inr (H, l) := by show (if allI H = true then _ else _) = _; rw [hall, decide_eq_true c, if_pos rfl]
          rw [et] at h
          exact br_t ((lt_p1 (by omega) (by omega)).mpr (by omega)) (h _ d ⟨rfl, (by omega), hB, t12, ⟨h0, hY⟩, ok⟩)
        · have et : sTot wM f n (.inr (H, l)) = .inl (6, n) := by show (if allI H = true then _ else _) = _; rw [hall, decide_eq_false c, if_neg (by decide)]
          rw [et] at h
          refine br_f (fun z => absurd ((lt_p1 (by omega) (by omega)).mp z) (by omega)) (M_fails (c := 6) (fun _ => ?_) (fun y => absurd z12 y))
          have ep : tP f n i = n := (tK0 hi).mp c0
          exact h (nI l) _ ⟨hB.tf hB.t5, ⟨Nat.le_of_ble_eq_true rfl, Nat.le_of_ble_eq_true rfl, Nat.le_refl n⟩, by rw [up_n (by omega), up_s], by rw [up_s, t15, ep]⟩
      · have es : sAll wM f n (r + 1) i H l = match sLn wM f n i H with
            | .inl e => .inl e
            | .inr z => sAll wM f n r z.2 z.1 (l + 1) := by show (if tK f n i = 0 then _ else _) = _; rw [if_neg c0]; rfl
        rw [es] at h
        refine br_f (lit_ne (b := 0) (by omega) (by omega) c0) (M_readLine hS c4 hY ok (fun d1 hP => ?_))
        rw [nI_1]
        rcases hs : sLn wM f n i H with e | ⟨H', i'⟩
        · rw [hs] at hP h
          obtain ⟨hB1, he⟩ : YB f n m0 d1 ∧ YE n e d1 := hP
          exact bk_X5_text_57 (rr_f he.nz (M_all_81b hB1 he h))
        · rw [hs] at hP h
          obtain ⟨hS1, h1, hY1⟩ : YS f n m0 (.inr i') d1 ∧ ∃ h, Y2 d1 H' h := hP
          obtain ⟨g1, g2, g3⟩ := sLn_r hi ok hs
          exact ih i' H' h1 (l + 1) d1 (by omega) (by omega) hS1 hY1 g3 h
/-- what text() leaves of the reference -/
def PMt (m0 : DD) (R : Sum (Nat × Nat) (HH × Nat)) (r : Int32) (d : DD) : Prop := match R with
  | .inl e => r = (-10) - nI e.2 ∧ d 0 10 = nI 0 ∧ d 0 11 = nI e.1 ∧ (∀ a, a ≠ 0 → a ≠ 2 → d a = m0 a) ∧ ∀ j, ¬ frJ j → j ≠ 10 → j ≠ 11 → d 0 j = m0 0 j
  | .inr z => r = nI z.2 ∧ z.2 ≤ 160 ∧ d 0 10 = nI 0 ∧ d 0 11 = nI 0 ∧ d 0 28 = nI 0 ∧ d 13 0 = nI 0 ∧ d 13 1 = nI 0 ∧ MH 0 d z.1 ∧ OKw z.1 ∧ allI z.1 = true ∧ (∀ a, 2 < a → a ≠ 13 → d a = m0 a) ∧ ∀ j, ¬ frJ j → ¬ (1 ≤ j ∧ j ≤ 3) → j ≠ 10 → j ≠ 11 → j ≠ 28 → d 0 j = m0 0 j
theorem M_text {q : Int32 → DD → Prop} {m0 : DD} {f : Nat → Nat} {n : Nat} (hB : YB f n m0 m0) (h : ∀ r d', PMt m0 (sTxt wM f n) r d' → q r d') : Cn SM MX5_text [.ref 0] m0 (rI q) := by
  have hn := hB.1
  refine cn_X5_text (nm_e (nm_e (nm_e (nm_e (nm_e (nm_e ?_))))))
  generalize ed : up (up (up (up (up (up m0 0 12 0) 0 14 0) 0 5 0) 0 6 0) 0 7 0) 0 8 (-1) = d
  have hB2 : YB f n m0 d := hB.put (fun a u v => by rw [← ed, up_ne a (by omega), up_ne a (by omega), up_ne a (by omega), up_ne a (by omega), up_ne a (by omega), up_ne a (by omega)]) (fun j hj => by
    unfold frJ at hj
    rw [← ed, up_n (by omega), up_n (by omega), up_n (by omega), up_n (by omega), up_n (by omega), up_n (by omega)])
  have e12 : d 0 12 = nI 0 := by rw [← ed, up_n (by omega), up_n (by omega), up_n (by omega), up_n (by omega), up_n (by omega), up_s]; rfl
  have e14 : d 0 14 = nI 0 := by rw [← ed, up_n (by omega), up_n (by omega), up_n (by omega), up_n (by omega), up_s]; rfl
  have e5 : d 0 5 = nI 0 := by rw [← ed, up_n (by omega), up_n (by omega), up_n (by omega), up_s]; rfl
  have e6 : d 0 6 = nI 0 := by rw [← ed, up_n (by omega), up_n (by omega), up_s]; rfl
  have e7 : d 0 7 = nI 0 := by rw [← ed, up_n (by omega), up_s]; rfl
  have e8 : d 0 8 = nI 0 - 1 := by rw [← ed, up_s]; decide
  clear ed
  -- the end, by what was found
  have k105 : ∀ l2 l' d', PYl f n m0 (sTxt wM f n) l' d' → Ev SM MX5_text 105 [.ref 0, .int l', .int l2] [] d' (rI q) := by
    intro l2 l' d1 hP
    refine bk_X5_text_105 (nm_e (nm_e ?_))
    rw [up_n (d := d1) (by omega)]
    rcases hs : sTxt wM f n with e | z
    · rw [hs] at hP h
      obtain ⟨hB1, he⟩ : YB f n m0 d1 ∧ YE n e d1 := hP
      have g12 : up (up d1 0 10 0) 0 11 (d1 0 12) 0 12 = d1 0 12 := by rw [up_n (by omega), up_n (by omega)]
      have g13 : up (up d1 0 10 0) 0 11 (d1 0 12) 0 13 = d1 0 13 := by rw [up_n (by omega), up_n (by omega)]
      rw [g12, g13]
      refine br_f he.nle (h _ _ ⟨by rw [he.2.2], by rw [up_n (by omega), up_s]; rfl, by rw [up_s]; exact he.2.1, fun a u v => by rw [up_ne a u, up_ne a u]; exact hB1.2.2.2.2.2.1 a u v, fun j u v w => by rw [up_n (by omega), up_n (by omega)]; exact hB1.2.2.2.2.2.2 j u⟩)
    · obtain ⟨H, l⟩ := z
      have hall : allI H = true := by
        unfold sTxt sTot at hs
        split at hs
        · cases hs
        · split at hs
          · rename_i c; cases hs; exact c
          · cases hs
      rw [hs] at hP h
      obtain ⟨el, hl, hB1, z12, ⟨hh, hY⟩, ok⟩ : l' = nI l ∧ l ≤ 160 ∧ YB f n m0 d1 ∧ d1 0 12 = nI 0 ∧ (∃ h, Y2 d1 H h) ∧ OKw H := hP
      have g12 : up (up d1 0 10 0) 0 11 (d1 0 12) 0 12 = d1 0 12 := by rw [up_n (by omega), up_n (by omega)]
      rw [g12]
      refine br_t (by rw [z12]; exact nI_le (a := 0) (b := 0) (by omega) (by omega)) ?_
      generalize eg : up (up d1 0 10 0) 0 11 (d1 0 12) = d2
      have r2 : ∀ a, a ≠ 0 → d2 a = d1 a := fun a u => by rw [← eg, up_ne a u, up_ne a u]
      have r0 : ∀ j, j ≠ 10 → j ≠ 11 → d2 0 j = d1 0 j := fun j u v => by rw [← eg, up_n (by omega), up_n (by omega)]
      have r10 : d2 0 10 = nI 0 := by rw [← eg, up_n (by omega), up_s]; rfl
      have r11 : d2 0 11 = nI 0 := by rw [← eg, up_s]; exact z12
      clear eg
      rw [li_0]
      refine for_up (W := fun k d' => Ev SM MX5_text 135 [.ref 0, .int l', .int (nI k)] [] d' (rI q)) (I := fun k d' => (∀ a, a ≠ 1 → d' a = d2 a) ∧ (∀ j, 70 ≤ j → d' 1 j = d2 1 j) ∧ ∀ j, j < k → d' 1 j = d2 2 j) 70 ?_ ?_ 0 d2 (Nat.zero_le _) ⟨fun _ _ => rfl, fun _ _ => rfl, fun j hj => absurd hj (Nat.not_lt_zero j)⟩
      · rintro d3 ⟨i1, i2, i3⟩
        refine bk_X5_text_135 (br_t (nI_le (a := 70) (by omega) (by omega)) (nm_e (nm_e (nm_e (nm_e (nm_e (nm_e ?_)))))))
        have x0 : ∀ j, d3 0 j = d2 0 j := fun j => by rw [i1 0 (by omega)]
        obtain ⟨y1, y2, y3, y4, y5, y6, y7, y8⟩ := hY
        obtain ⟨o1, o2, o3, o4, o5, o6⟩ := id ok
        have x5 : d3 0 5 = nI (nT H) := by rw [x0, r0 5 (by omega) (by omega)]; exact y1
        have x6 : d3 0 6 = nI (nP H) := by rw [x0, r0 6 (by omega) (by omega)]; exact y2
        have x7 : d3 0 7 = nI (nB H) := by rw [x0, r0 7 (by omega) (by omega)]; exact y3
        rw [up_n (d := d3) (j := 1) (by omega), up_n (d := up d3 0 1 _) (j := 2) (by omega), up_n (d := d3) (j := 1) (by omega), x5, x6, x7]
        have rw1 : ∀ j, j < 70 → d3 1 j = d1 2 j := fun j hj => by rw [i3 j hj, r2 2 (by omega)]
        refine h _ _ ⟨el, hl, ?_, ?_, ?_, ?_, ?_, ?_, ok, hall, fun a u v => ?_, fun j u v w x y => ?_⟩
        · rw [up_ne 0 (by omega), up_ne 0 (by omega), up_n (by omega), up_n (by omega), up_n (by omega), up_n (by omega), x0]; exact r10
        · rw [up_ne 0 (by omega), up_ne 0 (by omega), up_n (by omega), up_n (by omega), up_n (by omega), up_n (by omega), x0]; exact r11
        · rw [up_ne 0 (by omega), up_ne 0 (by omega), up_s]; rfl
        · rw [up_n (by omega), up_s]; rfl
        · rw [up_s]; rfl
        · refine ⟨?_, ?_, ?_, fun t ht => ?_, fun p hp => ?_, fun q hq => ?_⟩
          · rw [up_ne 0 (by omega), up_ne 0 (by omega), up_n (by omega), up_n (by omega), up_n (by omega), up_s]
          · rw [up_ne 0 (by omega), up_ne 0 (by omega), up_n (by omega), up_n (by omega), up_s]
          · rw [up_ne 0 (by omega), up_ne 0 (by omega), up_n (by omega), up_s]
          · have ht : t < nT H := ht
            obtain ⟨b1, b2, b3, b4, b5⟩ := y4 t ht
            have h88 := (o4 t ht).2.2.1
            rw [up_ne 1 (by omega), up_ne 1 (by omega), up_ne 1 (by omega), up_ne 1 (by omega), up_ne 1 (by omega), up_ne 1 (by omega)]
            refine ⟨?_, ?_, ?_, ?_, fun i hi => ?_⟩
            rotate_left 4
            · have hi : i < H 1 t := hi
              rw [Nat.zero_add, rw1 _ (by omega)]; exact b5 i hi
            · rw [Nat.zero_add, rw1 _ (by omega)]; exact b1
            · rw [Nat.zero_add, rw1 _ (by omega)]; exact b2
            · rw [Nat.zero_add, rw1 _ (by omega)]; exact b3
            · rw [Nat.zero_add, rw1 _ (by omega)]; exact b4
          · have hp : p < nP H := hp
            obtain ⟨b1, b2, b3, b4⟩ := y5 p hp
            rw [up_ne 1 (by omega), up_ne 1 (by omega), up_ne 1 (by omega), up_ne 1 (by omega), up_ne 1 (by omega), up_ne 1 (by omega)]
            refine ⟨?_, ?_, ?_, ?_⟩
            · rw [Nat.zero_add, rw1 _ (by omega)]; exact b1
            · rw [Nat.zero_add, rw1 _ (by omega)]; exact b2
            · rw [Nat.zero_add, rw1 _ (by omega)]; exact b3
            · rw [Nat.zero_add, rw1 _ (by omega)]; exact b4
          · have hq : q < nB H := hq
            rw [up_ne 1 (by omega), up_ne 1 (by omega), up_ne 1 (by omega), up_ne 1 (by omega), up_ne 1 (by omega), up_ne 1 (by omega), Nat.zero_add, rw1 _ (by omega)]
            exact y6 q hq
        · rw [up_ne a (by omega), up_ne a (by omega), up_ne a (by omega), up_ne a (by omega), up_ne a (by omega), up_ne a (by omega), i1 a (by omega), r2 a (by omega)]
          exact hB1.2.2.2.2.2.1 a (by omega) (by omega)
        · rw [up_ne 0 (by omega), up_ne 0 (by omega), up_n (by omega), up_n (by omega), up_n (by omega), up_n (by omega), x0, r0 j (by omega) (by omega)]
          exact hB1.2.2.2.2.2.2 j u
      · rintro k d3 hk ⟨i1, i2, i3⟩ ih
        refine bk_X5_text_135 (br_f (fun z => absurd ((nI_leI (a := 70) (by omega) (by omega)).mp z) (by omega)) ⟨vp_in_nI (by omega) (by omega), vp_in_nI (by omega) (by omega), nm_e ?_⟩)
        rw [nI_clamp (by omega), nI_1]
        refine ih _ ⟨fun a u => by rw [up_ne a u]; exact i1 a u, fun j hj => by rw [up_n (by omega)]; exact i2 j hj, fun j hj => ?_⟩
        by_cases c : j = k
        · subst c; rw [up_s, i1 2 (by omega)]
        · rw [up_n (by omega)]; exact i3 j (by omega)
  rw [li_0]
  refine for_up (W := fun k d' => Ev SM MX5_text 34 [.ref 0, .int (nI 0), .int (nI k)] [] d' (rI q)) (I := fun k d' => ∀ a, a ≠ 2 → d' a = d a) 70 ?_ ?_ 0 d (Nat.zero_le _) (fun _ _ => rfl)
  · intro d1 i1
    have r0 : ∀ j, d1 0 j = d 0 j := fun j => by rw [i1 0 (by omega)]
    have hB3 : YB f n m0 d1 := hB2.put (fun a u v => i1 a v) (fun j hj => r0 j)
    refine bk_X5_text_34 (br_t (nI_le (a := 70) (by omega) (by omega)) (M_stepS (σ := .inr 0) ⟨hB3, Nat.zero_le _, by rw [r0]; exact e12, by rw [r0]; exact e14⟩ (fun d2 s2 t2 => ?_)))
    have hY : Y2 d2 Hnil 0 := by
      refine ⟨?_, ?_, ?_, fun t ht => absurd ht (Nat.not_lt_zero t), fun t ht => absurd ht (Nat.not_lt_zero t), fun t ht => absurd ht (Nat.not_lt_zero t), ?_, fun t ht => absurd ht (Nat.not_lt_zero t), fun t ht => absurd ht (Nat.not_lt_zero t), Nat.zero_le _, fun b _ _ => Nat.zero_le _⟩
      · rw [t2.2 5 (by omega), r0]; exact e5
      · rw [t2.2 6 (by omega), r0]; exact e6
      · rw [t2.2 7 (by omega), r0]; exact e7
      · rw [t2.2 8 (by omega), r0]; exact e8
    exact M_all_57 161 0 Hnil 0 0 d2 (by omega) (by omega) s2 hY OKw_nil (k105 _)
  · intro k d1 hk i1 ih
    refine bk_X5_text_34 (br_f (fun z => absurd ((nI_leI (a := 70) (by omega) (by omega)).mp z) (by omega)) ⟨vp_in_nI (by omega) (by omega), nm_e ?_⟩)
    rw [nI_1]
    exact ih _ (fun a u => by rw [up_ne a u]; exact i1 a u)
