theorem strLen7 : ∀ i : Fin 6, strLen.getD i.1 0 ≤ 7 := by decide +kernel
/-! ===== the class reads a tune's line; names; a line; all ===== -/
def g0 (v j : Nat) : Nat := if j = 0 then v else 0
def sTu (w : Nat → Nat) (f : Nat → Nat) (n i : Nat) : Sg := sB (fun i1 => sB (fun i2 => sB (fun i3 => sNtS f n (sNt w f n 8 1 i3 (g0 (tV f n i2)))) (sNum f n 0 9 i2)) (sNum f n 0 9 i1)) (sNum f n 1 9 i)
theorem X_tellTune {q : DD → Prop} {x0 : DD} {f : Nat → Nat} {n i k : Nat} {d : DD} {H : HH} (hS : XS f n x0 (.inr i) d) (hX : XH 12 d H) (h8 : O8 H) (hk : k ≤ 3) (hb : nT H < 4) (h : ∀ d', XS f n x0 (sTu wX f n i) d' → (∀ i1 i2 i3 c g i', sNum f n 1 9 i = .inr i1 → sNum f n 0 9 i1 = .inr i2 → sNum f n 0 9 i2 = .inr i3 → sNt wX f n 8 1 i3 (g0 (tV f n i2)) = .inr (c, g, i') → XH 12 d' (aT H k (tV f n i) (tV f n i1) c g)) → q d') : Cn SX MX3_tellTune [.ref 36, .ref 12, .int (nI k)] d (rV q) := by
  have e3 := hX.nt
  have vp : vp_in (nI (nT H)) 4 := vp_in_nI (by omega) (by omega)
  have e8 : nI (nT H) * 8 = nI (8 * nT H) := by rw [show (8 : Int32) = nI 8 from rfl, pk_mul, Nat.mul_comm]
  refine cn_X3_tellTune isH12 (br_t (by rw [e3]; exact (nI_ltI (b := 4) (by omega) (by omega)).mpr hb) (nm_e ?_))
  rw [e3, nI_1, nI_clamp (by omega), e8, nI_clamp (by omega)]
  refine ⟨vp, nm_e ?_⟩
  refine X_next (lo := 1) (hi := 9) ((hS.put (d' := up d 12 0 (nI (nT H + 1))) (fun a ha => up_ne a (by omega))).put (d' := up (up d 12 0 (nI (nT H + 1))) 13 (nT H) (nI k)) (fun a ha => up_ne a (by omega))) (by omega) (by omega) (fun v1 d1 _ _ s1 ev1 f1 => ⟨vp, nm_e ?_⟩)
  refine X_next (lo := 0) (hi := 9) (s1.put (d' := up d1 15 (nT H) (nI v1)) (fun a ha => up_ne a (by omega))) (by omega) (by omega) (fun v2 d2 _ _ s2 ev2 f2 => ⟨vp, nm_e ?_⟩)
  refine X_next (lo := 0) (hi := 9) (s2.put (d' := up d2 16 (nT H) (nI v2)) (fun a ha => up_ne a (by omega))) (by omega) (by omega) (fun v3 d3 _ _ s3 ev3 f3 => ⟨vp_in_nI (by omega) (by omega), nm_e ⟨vp, nm_e ?_⟩⟩)
  refine X_adv ((s3.put (d' := up d3 17 (8 * nT H) (nI v3)) (fun a ha => up_ne a (by omega))).put (d' := up (up d3 17 (8 * nT H) (nI v3)) 14 (nT H) 1) (fun a ha => up_ne a (by omega))) (fun d4 s4 f4 => ?_)
  have s4' : XA f n x0 (sB (sNum f n 0 9) (sB (sNum f n 0 9) (sNum f n 1 9 i))) d4 := s4
  have bad : ∀ e, XA f n x0 (.inl e) d4 → sTu wX f n i = .inl e → (∀ i1 i2 i3, sNum f n 1 9 i = .inr i1 → sNum f n 0 9 i1 = .inr i2 → sNum f n 0 9 i2 = .inr i3 → False) → Ev SX MX3_tellTune 93 [.ref 36, .ref 12, .int (nI k), .int (nI (nT H)), .int 1, uJ] [] d4 (rV q) := by
    intro e hA es no
    exact X_notes_bad (t := nT H) hA (fun d' s _ => h d' (by rw [es]; exact s) (fun i1 i2 i3 c g i' u1 u2 u3 u4 => absurd (no i1 i2 i3 u1 u2 u3) id))
  rcases z1 : sNum f n 1 9 i with e | i1
  · rw [z1] at s4'
    exact bad e s4' (by unfold sTu; rw [z1]; rfl) (fun i1 i2 i3 u1 _ _ => by rw [z1] at u1; cases u1)
  rw [z1] at s4'
  have s5' : XA f n x0 (sB (sNum f n 0 9) (sNum f n 0 9 i1)) d4 := s4'
  rcases z2 : sNum f n 0 9 i1 with e | i2
  · rw [z2] at s5'
    exact bad e s5' (by unfold sTu; rw [z1]; show sB _ (sNum f n 0 9 i1) = _; rw [z2]; rfl) (fun j1 j2 j3 u1 u2 _ => by rw [z1] at u1; cases u1; rw [z2] at u2; cases u2)
  rw [z2] at s5'
  have s6' : XA f n x0 (sNum f n 0 9 i2) d4 := s5'
  rcases z3 : sNum f n 0 9 i2 with e | i3
  · rw [z3] at s6'
    exact bad e s6' (by unfold sTu; rw [z1]; show sB _ (sNum f n 0 9 i1) = _; rw [z2]; show sB _ (sNum f n 0 9 i2) = _; rw [z3]; rfl) (fun j1 j2 j3 u1 u2 u3 => by rw [z1] at u1; cases u1; rw [z2] at u2; cases u2; rw [z3] at u3; cases u3)
  rw [z3] at s6'
  have w1 := ev1 i i1 rfl z1
  have w2 := ev2 i1 i2 z1 z2
  have w3 := ev3 i2 i3 (by show sB (sNum f n 0 9) (sNum f n 1 9 i) = _; rw [z1]; exact z2) z3
  subst w1 w2 w3
  have es : sTu wX f n i = sNtS f n (sNt wX f n 8 1 i3 (g0 (tV f n i2))) := by unfold sTu; rw [z1]; show sB _ (sNum f n 0 9 i1) = _; rw [z2]; show sB _ (sNum f n 0 9 i2) = _; rw [z3]; rfl
  refine X_notes (t := nT H) hb 8 1 i3 (g0 (tV f n i2)) d4 rfl (by omega) (by omega) s6' ?_ (fun j hj => ?_) (fun d' s fr ok => h d' (by rw [es]; exact s) (fun j1 j2 j3 c g i' u1 u2 u3 u4 => ?_))
  · rw [f4 14 (by omega), up_s]; rfl
  · rw [show j = 0 by omega, Nat.add_zero, f4 17 (by omega), up_n (by omega), up_s]; rfl
  · rw [z1] at u1; cases u1
    rw [z2] at u2; cases u2
    rw [z3] at u3; cases u3
    obtain ⟨o1, o2, o3⟩ := ok c g i' u4
    obtain ⟨r1, r2, r3⟩ := fr
    refine XH_aT h8 o1 hX (fun a j q1 q2 q3 q4 q5 => ?_) ?_ ?_ o2 ?_ ?_ o3
    · have e4 : d' a j = d4 a j := by
        by_cases y : a = 14
        · subst y; exact r2 j (by omega)
        · by_cases y2 : a = 17
          · subst y2; exact r3 j (by omega)
          · rw [r1 a (by omega) y y2]
      rw [e4, f4 a (by omega), up_n (by omega), up_n (by omega), f3 a (by omega), up_n (by omega), f2 a (by omega), up_n (by omega), f1 a (by omega), up_n (by omega), up_n (by omega)]
    · rw [r1 12 (by omega) (by omega) (by omega), f4 12 (by omega), up_n (by omega), up_n (by omega), f3 12 (by omega), up_n (by omega), f2 12 (by omega), up_n (by omega), f1 12 (by omega), up_n (by omega), up_s]
    · rw [r1 13 (by omega) (by omega) (by omega), f4 13 (by omega), up_n (by omega), up_n (by omega), f3 13 (by omega), up_n (by omega), f2 13 (by omega), up_n (by omega), f1 13 (by omega), up_s]
    · rw [r1 15 (by omega) (by omega) (by omega), f4 15 (by omega), up_n (by omega), up_n (by omega), f3 15 (by omega), up_n (by omega), f2 15 (by omega), up_s]
    · rw [r1 16 (by omega) (by omega) (by omega), f4 16 (by omega), up_n (by omega), up_n (by omega), f3 16 (by omega), up_s]
/-! names -/
theorem str_sh : ∀ k : Fin 6, (nI (strLen.getD k.1 0)) >>> ((0 : Int32) &&& 31) = nI (strLen.getD k.1 0) := by decide +kernel
theorem str_by : ∀ (k : Fin 6) (j : Fin 7), ((((strByt.getD k.1 []).getD j.1 0) &&& 255).toUInt32 % 65536).toInt32 = (strByt.getD k.1 []).getD j.1 0 := by decide +kernel
theorem str_nr : ∀ (k : Fin 6) (j : Fin 7), narrow .char (.int ((strByt.getD k.1 []).getD j.1 0)) = .int ((strByt.getD k.1 []).getD j.1 0) := by decide +kernel
theorem X_strlen {q : Int32 → DD → Prop} {d : DD} {k : Nat} (hk : k < 6) (h : q (nI (strLen.getD k 0)) d) : Cn SX MJ0_length_8abf5 [.ref (1000 + k)] d (rI q) := by
  refine cn_J0_length_8abf5 hk (cn_J0_coder_7d493 hk ?_)
  rw [str_sh ⟨k, hk⟩]; exact h
theorem X_charAt {q : Int32 → DD → Prop} {d : DD} {k j : Nat} (hk : k < 6) (hj : j < strLen.getD k 0) (h : q ((strByt.getD k []).getD j 0) d) : Cn SX MJ0_charAt_5068e [.ref (1000 + k), .int (nI j)] d (rI q) := by
  have h7 := strLen7 ⟨k, hk⟩
  have hj7 : j < 7 := Nat.lt_of_lt_of_le hj h7
  have hl : strLen.getD k 0 < 2 ^ 31 := Nat.lt_of_le_of_lt h7 (by decide)
  refine cn_J0_charAt_5068e hk (cn_J0_isLatin1_aae02 hk (y1' (cn_J1_charAt_3b067 hk (cn_J0_checkIndex_df160 (fun v1 hv1 => cn_J3_checkIndex_8e157 hv1 (br_f ?_ (br_t ?_ ⟨vp_in_nI hj hl, ?_⟩)))))))
  · rw [li_0]; exact fun c => absurd ((nI_ltI (by omega) (by omega)).mp c) (by omega)
  · exact (nI_ltI (by omega) hl).mpr hj
  · rw [nI_clamp (by omega), str_by ⟨k, hk⟩ ⟨j, hj7⟩]
    exact ⟨str_nr ⟨k, hk⟩ ⟨j, hj7⟩, str_nr ⟨k, hk⟩ ⟨j, hj7⟩, h⟩
/-- the name k stands from p to e -/
def nmI (f : Nat → Nat) (k p e : Nat) : Bool := decide (e - p = strLen.getD k 0) && (List.range (strLen.getD k 0)).all (fun j => decide (nI (f (p + j)) = (strByt.getD k []).getD j 0))
theorem nmI_t {f : Nat → Nat} {k p e : Nat} (h1 : e - p = strLen.getD k 0) (h2 : ∀ j, j < strLen.getD k 0 → nI (f (p + j)) = (strByt.getD k []).getD j 0) : nmI f k p e = true := by
  unfold nmI
  rw [decide_eq_true h1, Bool.true_and, List.all_eq_true]
  intro j hj
  exact decide_eq_true (h2 j (List.mem_range.mp hj))
theorem nmI_f {f : Nat → Nat} {k p e j : Nat} (h1 : j < strLen.getD k 0) (h2 : nI (f (p + j)) ≠ (strByt.getD k []).getD j 0) : nmI f k p e = false := by
  rw [Bool.eq_false_iff]
  intro z
  unfold nmI at z
  rw [Bool.and_eq_true, List.all_eq_true] at z
  exact h2 (of_decide_eq_true (z.2 j (List.mem_range.mpr h1)))
theorem nmI_l {f : Nat → Nat} {k p e : Nat} (h1 : e - p ≠ strLen.getD k 0) : nmI f k p e = false := by
  unfold nmI
  rw [decide_eq_false h1, Bool.false_and]
theorem X_isName {q : Int32 → DD → Prop} {x0 : DD} {f : Nat → Nat} {n i k : Nat} {d : DD} (hB : XB f n x0 d) (hi : i ≤ n) (hT : XTk f n i d) (hk : k < 6) (h : q (b2 (decide (tK f n i = 1) && nmI f k (tP f n i) (tN f n i))) d) : Cn SX MX3_isName [.ref 36, .ref (1000 + k)] d (rI q) := by
  have hn := hB.1
  have h7 := strLen7 ⟨k, hk⟩
  have h7' : strLen.getD k 0 ≤ 7 := h7
  have hK := tK_le (f := f) (n := n) (i := i)
  have hle := tN_le (f := f) hi
  have hge := tN_ge (f := f) (n := n) (i := i)
  refine cn_X3_isName hk ?_
  rw [hT.1]
  by_cases c1 : tK f n i = 1
  · rw [decide_eq_true c1, Bool.true_and] at h
    refine rr_t (by rw [c1]; rfl) (X_strlen hk ?_)
    rw [hT.2.1, hT.2.2, pk_sub hge]
    by_cases cl : tN f n i - tP f n i = strLen.getD k 0
    · refine br_t (by rw [cl]) ?_
      rw [li_0]
      suffices hs : ∀ r j, r + j = strLen.getD k 0 → (∀ y, y < j → nI (f (tP f n i + y)) = (strByt.getD k []).getD y 0) → Ev SX MX3_isName 28 [.ref 36, .ref (1000 + k), .int (nI j)] [] d (rI q) from hs _ 0 (Nat.add_zero _) (fun y hy => absurd hy (Nat.not_lt_zero y))
      intro r
      induction r with
      | zero =>
        intro j hj ha
        refine bk_X3_isName_28 hk (X_strlen hk (br_t (nI_le (by omega) (by omega)) ?_))
        rw [nmI_t cl (fun y hy => ha y (by omega))] at h
        exact h
      | succ r ih =>
        intro j hj ha
        have hjl : j < strLen.getD k 0 := by omega
        refine bk_X3_isName_28 hk (X_strlen hk (br_f (fun z => absurd ((nI_leI (by omega) (by omega)).mp z) (by omega)) ?_))
        rw [hT.2.1, nI_add, nI_1]
        refine ⟨vp_in_nI (by omega) (by omega), X_charAt hk hjl ?_⟩
        rw [nI_clamp (by omega), hB.2.2.2.1 _ (by omega)]
        by_cases ce : nI (f (tP f n i + j)) = (strByt.getD k []).getD j 0
        · refine br_t ce (ih (j + 1) (by omega) (fun y hy => ?_))
          by_cases cy : y = j
          · rw [cy]; exact ce
          · exact ha y (by omega)
        · rw [nmI_f hjl ce] at h
          exact br_f ce h
    · rw [nmI_l cl] at h
      exact br_f (lit_ne (by omega) (by omega) cl) h
  · rw [decide_eq_false c1, Bool.false_and] at h
    exact rr_f (lit_ne (b := 1) (by omega) (by omega) c1) h
