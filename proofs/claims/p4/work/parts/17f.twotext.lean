/-! ===== both readings side by side: they differ in a 9th note's FAULT at most ===== -/
def RWs {α : Type} (a b : Sum (Nat × Nat) α) : Prop := match a with
  | .inr x => b = .inr x
  | .inl e => ∃ c, b = .inl (c, e.2) ∧ (c = e.1 ∨ (e.1 = 3 ∧ c = 5))
theorem RWs.rf {α : Type} {a : Sum (Nat × Nat) α} : RWs a a := by
  cases a with
  | inl e => exact ⟨e.1, rfl, Or.inl rfl⟩
  | inr x => rfl
theorem RWs_rB {α : Type} {g g' : Nat → Sum (Nat × Nat) α} {s : Sg} (h : ∀ i, RWs (g i) (g' i)) : RWs (rB g s) (rB g' s) := by
  cases s with
  | inl e => exact RWs.rf
  | inr i => exact h i
theorem RWs_nt {f : Nat → Nat} {n : Nat} : ∀ r c i g, RWs (sNt wX f n r c i g) (sNt wM f n r c i g) := by
  intro r
  induction r with
  | zero => intro c i g; exact RWs.rf
  | succ r ih =>
    intro c i g
    rw [sNt, sNt]
    by_cases c2 : tK f n i = 2
    · rw [if_pos c2, if_pos c2]
      by_cases c8 : c = 8
      · rw [if_pos c8, if_pos c8]
        refine ⟨5, rfl, ?_⟩
        show 5 = wX (tV f n i) ∨ (wX (tV f n i) = 3 ∧ 5 = 5)
        unfold wX
        split
        · exact Or.inl rfl
        · exact Or.inr ⟨rfl, rfl⟩
      · rw [if_neg c8, if_neg c8]
        by_cases z : tV f n i ≤ 9
        · rw [if_pos z, if_pos z]; exact ih _ _ _
        · rw [if_neg z, if_neg z]; exact RWs.rf
    · rw [if_neg c2, if_neg c2]; exact RWs.rf
theorem RWs_tu {f : Nat → Nat} {n i k : Nat} {H : HH} : RWs (rTu wX f n i k H) (rTu wM f n i k H) := by
  unfold rTu
  refine RWs_rB fun i1 => RWs_rB fun i2 => RWs_rB fun i3 => ?_
  have h := RWs_nt (f := f) (n := n) 8 1 i3 (g0 (tV f n i2))
  rcases z : sNt wX f n 8 1 i3 (g0 (tV f n i2)) with e | y
  · rw [z] at h
    obtain ⟨c, e1, e2⟩ := h
    rw [e1]
    exact ⟨c, rfl, e2⟩
  · rw [z] at h
    have h : sNt wM f n 8 1 i3 (g0 (tV f n i2)) = .inr y := h
    rw [h]
    exact RWs.rf
theorem RWs_if {α : Type} {p : Prop} [Decidable p] {a b a' b' : Sum (Nat × Nat) α} (h1 : RWs a a') (h2 : RWs b b') : RWs (if p then a else b) (if p then a' else b') := by
  split
  · exact h1
  · exact h2
theorem RWs_ln {f : Nat → Nat} {n i : Nat} {H : HH} : RWs (sLn wX f n i H) (sLn wM f n i H) := by
  unfold sLn
  exact RWs_if RWs.rf (RWs_if (RWs_if RWs_tu RWs.rf) (RWs_if (RWs_if RWs_tu RWs.rf) (RWs_if (RWs_if RWs_tu RWs.rf) (RWs_if (RWs_if RWs_tu RWs.rf) (RWs_if RWs.rf (RWs_if RWs.rf RWs.rf))))))
theorem RWs_all {f : Nat → Nat} {n : Nat} : ∀ r i H l, RWs (sAll wX f n r i H l) (sAll wM f n r i H l) := by
  intro r
  induction r with
  | zero => intro i H l; exact RWs.rf
  | succ r ih =>
    intro i H l
    rw [sAll, sAll]
    by_cases c0 : tK f n i = 0
    · rw [if_pos c0, if_pos c0]; exact RWs.rf
    · rw [if_neg c0, if_neg c0]
      have h := RWs_ln (f := f) (n := n) (i := i) (H := H)
      rcases z : sLn wX f n i H with e | y
      · rw [z] at h
        obtain ⟨c, e1, e2⟩ := h
        rw [e1]
        exact ⟨c, rfl, e2⟩
      · rw [z] at h
        have h : sLn wM f n i H = .inr y := h
        rw [h]
        exact ih _ _ _
theorem RWs_txt {f : Nat → Nat} {n : Nat} : RWs (sTxt wX f n) (sTxt wM f n) := by
  unfold sTxt
  have h := RWs_all (f := f) (n := n) 161 0 Hnil 0
  rcases z : sAll wX f n 161 0 Hnil 0 with e | y
  · rw [z] at h
    obtain ⟨c, e1, e2⟩ := h
    rw [e1]
    exact ⟨c, rfl, e2⟩
  · rw [z] at h
    have h : sAll wM f n 161 0 Hnil 0 = .inr y := h
    rw [h]
    exact RWs.rf
theorem OKw.okh {H : HH} (h : OKw H) (ha : allI H = true) : OKH H := by
  obtain ⟨o1, o2, o3, o4, o5, o6⟩ := h
  obtain ⟨a1, a2⟩ := allI_r ha
  exact ⟨o1, o2, o3, o4, fun p hp => ⟨(o5 p hp).1, (o5 p hp).2.1, (o5 p hp).2.2.1, (o5 p hp).2.2.2.1, a1 p hp⟩, a2⟩
/-- what text() leaves of the class -/
def PXt (x0 : DD) (R : Sum (Nat × Nat) (HH × Nat)) (r : Int32) (d : DD) : Prop := match R with
  | .inl e => r = (-10) - nI e.2 ∧ d 36 1 = nI 0 ∧ d 36 2 = nI e.1 ∧ ∀ a, a ≠ 36 → (a < 12 ∨ 22 < a) → d a = x0 a
  | .inr z => r = nI z.2 ∧ d 36 1 = nI 0 ∧ d 36 2 = nI 0 ∧ d 0 11 = nI 0 ∧ d 35 0 = nI 0 ∧ d 35 1 = nI 0 ∧ XH 1 d z.1 ∧ (∀ j, j ≠ 11 → d 0 j = x0 0 j) ∧ ∀ a, a ≠ 0 → a ≠ 35 → a ≠ 36 → 22 < a → d a = x0 a
theorem m10_lt {p : Nat} (h : p ≤ 160) : (-10 : Int32) - nI p < 0 := by
  have e : ((-10 : Int32) - nI p).toInt = -10 - (p : Int) := by
    rw [Int32.toInt_sub, nI_toInt (by omega), show ((-10 : Int32)).toInt = -10 from by decide]
    exact Int.bmod_eq_of_le (by omega) (by omega)
  rw [i_lt, e, show ((0 : Int32)).toInt = 0 from rfl]
  omega
theorem sTot_all {w : Nat → Nat} {f : Nat → Nat} {n : Nat} {z : HH × Nat} (h : sTxt w f n = .inr z) : allI z.1 = true := by
  unfold sTxt sTot at h
  split at h
  · cases h
  · split at h
    · rename_i c; cases h; exact c
    · cases h
theorem X_text {q : Int32 → DD → Prop} {x0 : DD} {f : Nat → Nat} {n : Nat} (hB : XB f n x0 x0) (h : ∀ r d', PXt x0 (sTxt wX f n) r d' → q r d') : Cn SX MX4_text [.ref 0] x0 (rI q) := by
  have hn := hB.1
  refine cn_X4_text (X_tellAll hB (fun r d1 hP => nm_e ?_))
  rcases hs : sTxt wX f n with e | ⟨H, l⟩
  · rw [hs] at hP h
    obtain ⟨er, hB1, hF⟩ : r = (-10) - nI e.2 ∧ XB f n x0 d1 ∧ FO n (some e) d1 := hP
    obtain ⟨k1, k2, k3⟩ : okE n e ∧ d1 36 2 = nI e.1 ∧ d1 36 3 = nI e.2 := hF
    refine br_t (by rw [er]; exact m10_lt (by have := k1.2.2; omega)) (h r _ ⟨er, up_s, by rw [up_n (by omega)]; exact k2, fun a u v => by rw [up_ne a u]; exact hB1.2.2.2.2 a u v⟩)
  · have hall := sTot_all hs
    rw [hs] at hP h
    obtain ⟨er, hl, hB1, hF, hX, ok⟩ : r = nI l ∧ l ≤ 160 ∧ XB f n x0 d1 ∧ FO n none d1 ∧ XH 12 d1 H ∧ OKw H := hP
    have okh := ok.okh hall
    refine br_f (by rw [er]; exact fun z => absurd ((nI_ltI (b := 0) (by omega) (by omega)).mp z) (by omega)) (X_becomeH isH1 isH12 (by omega) (hX.kept (fun a b1 b2 => up_ne a (by omega))) okh (fun d2 g1 g2 => nm_e ?_))
    have e2 : d1 36 2 = nI 0 := hF
    generalize eg : up d2 0 11 0 = d3
    have r36 : ∀ j, d3 36 j = up d1 36 1 0 36 j := fun j => by rw [← eg, up_ne 36 (by omega), g1 36 (by omega)]
    have r0 : d3 0 11 = nI 0 := by rw [← eg, up_s]; rfl
    have r0n : ∀ j, j ≠ 11 → d3 0 j = x0 0 j := fun j hj => by rw [← eg, up_n (by omega), g1 0 (by omega), up_ne 0 (by omega), hB1.2.2.2.2 0 (by omega) (by omega)]
    have ra : ∀ a, a ≠ 0 → a ≠ 36 → 22 < a → d3 a = x0 a := fun a u v w => by rw [← eg, up_ne a u, g1 a (by omega), up_ne a v, hB1.2.2.2.2 a v (Or.inr w)]
    have rX : XH 1 d3 H := by rw [← eg]; exact g2.kept (fun a b1 b2 => up_ne a (by omega))
    clear eg
    rw [li_0]
    refine for_up (W := fun k d' => Ev SX MX4_text 42 [.ref 0, .int r, .int (nI k)] [] d' (rI q)) (I := fun k d' => (∀ a, a ≠ 35 → d' a = d3 a) ∧ ∀ j, j < k → d' 35 j = nI 0) 2 ?_ ?_ 0 d3 (Nat.zero_le _) ⟨fun _ _ => rfl, fun j hj => absurd hj (Nat.not_lt_zero j)⟩
    · rintro d4 ⟨i1, i2⟩
      refine bk_X4_text_42 (br_t (nI_le (a := 2) (by omega) (by omega)) (h r d4 ⟨er, ?_, ?_, ?_, i2 0 (by omega), i2 1 (by omega), rX.kept (fun a b1 b2 => i1 a (by omega)), fun j hj => ?_, fun a u v w x => ?_⟩))
      · rw [i1 36 (by omega), r36, up_s]; rfl
      · rw [i1 36 (by omega), r36, up_n (by omega)]; exact e2
      · rw [i1 0 (by omega)]; exact r0
      · rw [i1 0 (by omega)]; exact r0n j hj
      · rw [i1 a v]; exact ra a u w x
    · rintro k d4 hk ⟨i1, i2⟩ ih
      refine bk_X4_text_42 (br_f (fun z => absurd ((nI_leI (a := 2) (by omega) (by omega)).mp z) (by omega)) ⟨vp_in_nI (by omega) (by omega), nm_e ?_⟩)
      rw [nI_clamp (by omega), nI_1]
      refine ih _ ⟨fun a u => by rw [up_ne a u]; exact i1 a u, fun j hj => ?_⟩
      by_cases c : j = k
      · subst c; rw [up_s]; rfl
      · rw [up_n (by omega)]; exact i2 j (by omega)
theorem two_text {x m : DD} {H : HH} (hR : RelH H x m) : Two MX4_text MX5_text [.ref 0] x m := by
  obtain ⟨ok, hX, hM, hO⟩ := id hR
  obtain ⟨n, n160, x1, m10, hrow⟩ := hO.1
  obtain ⟨-, b2, b3, b4, b5, b6, b7, b8⟩ := id hO
  -- the tape
  have hf : ∀ i, i < n → x 37 i = nI ((x 37 i).toNatClampNeg) ∧ (x 37 i).toNatClampNeg ≤ 127 := by
    intro i hi
    obtain ⟨-, c, hc, ec⟩ := hrow i hi
    rw [ec, nI_clamp (by omega)]
    exact ⟨rfl, hc⟩
  have hXB : XB (fun i => (x 37 i).toNatClampNeg) n x x := ⟨n160, fun i hi => (hf i hi).2, x1, fun i hi => (hf i hi).1, fun _ _ _ => rfl⟩
  have hYB : YB (fun i => (x 37 i).toNatClampNeg) n m m := ⟨n160, fun i hi => (hf i hi).2, m10, fun i hi => by rw [← (hrow i hi).1]; exact (hf i hi).1, b5, fun _ _ _ => rfl, fun _ _ => rfl⟩
  generalize (fun i => (x 37 i).toNatClampNeg) = f at hXB hYB
  have hw := RWs_txt (f := f) (n := n)
  rcases hs : sTxt wX f n with e | ⟨H', l⟩
  · rw [hs] at hw
    obtain ⟨c, e1, e2⟩ := hw
    refine ⟨(-10) - nI e.2, fun d => PXt x (.inl e) ((-10) - nI e.2) d, fun d => PMt m (.inl (c, e.2)) ((-10) - nI e.2) d, X_text hXB (fun r d hp => ?_), M_text hYB (fun r d hp => ?_), ?_⟩
    · rw [hs] at hp
      have er : r = (-10) - nI e.2 := hp.1
      subst er
      exact ⟨rfl, hp⟩
    · rw [e1] at hp
      have er : r = (-10) - nI e.2 := hp.1
      subst er
      exact ⟨rfl, hp⟩
    · rintro d d' ⟨-, p1, p2, p3⟩ ⟨-, q1, q2, q3, q4⟩
      have z0 : ∀ j, ¬ frJ j → j ≠ 10 → j ≠ 11 → d' 0 j = m 0 j := q4
      refine RelH.rel (H := H) ⟨ok, hX.kept (fun a u v => p3 a (by omega) (by omega)), hM.kept (fun j u v => z0 j (by unfold frJ; omega) (by omega) (by omega)) (fun j _ _ => by rw [q3 1 (by omega) (by omega)]) ok, ⟨0, (by omega), p1, q1, fun i hi => absurd hi (Nat.not_lt_zero i)⟩, b2.k (by rw [p3 0 (by omega) (by omega)]) (p3 49 (by omega) (by omega)) (p3 50 (by omega) (by omega)) (p3 51 (by omega) (by omega)) (z0 28 (by unfold frJ; omega) (by omega) (by omega)) (q3 12 (by omega) (by omega)), fun k hk => (b3 k hk).k (by rw [p3 35 (by omega) (by omega)]) (fun a u v => p3 a (by omega) (by omega)) (by rw [q3 13 (by omega) (by omega)]) (fun j u v => z0 j (by unfold frJ; omega) (by omega) (by omega)) (fun j u v => by rw [q3 1 (by omega) (by omega)]), fun k hk => (b4 k hk).k (p3 _ (by omega) (by omega)) (p3 _ (by omega) (by omega)) (by rw [q3 14 (by omega) (by omega)]) (by rw [q3 15 (by omega) (by omega)]) (fun j _ => by rw [q3 16 (by omega) (by omega)]), b5.k (q3 4 (by omega) (by omega)) (q3 5 (by omega) (by omega)), ?_, ?_, ?_⟩
      · rw [z0 26 (by unfold frJ; omega) (by omega) (by omega)]; exact b6
      · rw [p2, q2]
        rcases e2 with e2 | ⟨e2, e3⟩
        · exact Or.inl (by rw [e2])
        · exact Or.inr ⟨by rw [e2], by rw [e3]⟩
      · rw [p3 0 (by omega) (by omega), z0 34 (by unfold frJ; omega) (by omega) (by omega)]; exact b8
  · have hall := sTot_all hs
    rw [hs] at hw
    have e1 : sTxt wM f n = .inr (H', l) := hw
    refine ⟨nI l, fun d => PXt x (.inr (H', l)) (nI l) d, fun d => PMt m (.inr (H', l)) (nI l) d, X_text hXB (fun r d hp => ?_), M_text hYB (fun r d hp => ?_), ?_⟩
    · rw [hs] at hp
      have er : r = nI l := hp.1
      subst er
      exact ⟨rfl, hp⟩
    · rw [e1] at hp
      have er : r = nI l := hp.1
      subst er
      exact ⟨rfl, hp⟩
    · rintro d d' ⟨-, p1, p2, p3, p4, p5, p6, p7, p8⟩ ⟨-, -, q1, q2, q3, q4, q5, q6, q7, q8, q9, q10⟩
      refine RelH.rel (H := H') ⟨q7.okh hall, p6, q6, ⟨0, (by omega), p1, q1, fun i hi => absurd hi (Nat.not_lt_zero i)⟩, ⟨0, (by omega), p3, q3, fun i hi => absurd hi (Nat.not_lt_zero i)⟩, fun k hk => Or.inl ?_, fun k hk => (b4 k hk).k (p8 _ (by omega) (by omega) (by omega) (by omega)) (p8 _ (by omega) (by omega) (by omega) (by omega)) (by rw [q9 14 (by omega) (by omega)]) (by rw [q9 15 (by omega) (by omega)]) (fun j _ => by rw [q9 16 (by omega) (by omega)]), b5.k (q9 4 (by omega) (by omega)) (q9 5 (by omega) (by omega)), ?_, ?_, ?_⟩
      · rcases (show k = 0 ∨ k = 1 by omega) with rfl | rfl
        · exact ⟨p4, q4⟩
        · exact ⟨p5, q5⟩
      · rw [q10 26 (by unfold frJ; omega) (by omega) (by omega) (by omega) (by omega)]; exact b6
      · rw [p2, q2]; exact Or.inl rfl
      · rw [p7 12 (by omega), q10 34 (by unfold frJ; omega) (by omega) (by omega) (by omega) (by omega)]; exact b8
