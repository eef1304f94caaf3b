/-! ===== the reference reads a line, all lines ===== -/
def sTuM (f : Nat → Nat) (n i : Nat) : Sg := sB (fun i1 => sB (fun i2 => sB (fun i3 => sNt3 (sNt wM f n 8 1 i3 (g0 (tV f n i2)))) (sNum f n 0 9 i2)) (sNum f n 0 9 i1)) (sNum f n 1 9 i)
theorem M_tu {q : DD → Prop} {m0 : DD} {f : Nat → Nat} {n i h0 k : Nat} {d : DD} {H : HH} (hS : YS f n m0 (.inr i) d) (hY : Y2 d H h0) (ok : OKw H) (hk : k ≤ 3) (hb : nT H < 4) (h : ∀ d', YS f n m0 (sTuM f n i) d' → (∀ i1 i2 i3 c g i', sNum f n 1 9 i = .inr i1 → sNum f n 0 9 i1 = .inr i2 → sNum f n 0 9 i2 = .inr i3 → sNt wM f n 8 1 i3 (g0 (tV f n i2)) = .inr (c, g, i') → ∃ h, Y2 d' (aT H k (tV f n i) (tV f n i1) c g) h) → q d') : Cn SM MX5_readMore [.ref 0, .int (nI k)] d (rV q) := by
  have e5 := hY.1
  refine cn_X5_readMore (br_f (fun z => absurd ((nI_ltI (a := 3) (by omega) (by omega)).mp z) (by omega)) (cn_X5_readTune ?_))
  rw [e5, show (8 : Int32) + nI (nT H) = nI (8 + nT H) from nI_add 8 _, show (12 : Int32) + nI (nT H) = nI (12 + nT H) from nI_add 12 _, show (16 : Int32) + (8 * nI (nT H)) = nI (16 + 8 * nT H) from by rw [show (8 : Int32) = nI 8 from rfl, pk_mul, show (16 : Int32) = nI 16 from rfl, nI_add], nI_clamp (by omega), nI_clamp (by omega), nI_clamp (by omega), nI_clamp (by omega)]
  refine ⟨vp_in_nI (by omega) (by omega), nm_e (M_num (lo := 1) (hi := 9) (hS.put YPu.row) (by omega) (by omega) (fun v1 d1 _ s1 ev1 t1 => ⟨vp_in_nI (by omega) (by omega), nm_e ?_⟩))⟩
  refine M_num (lo := 0) (hi := 9) (s1.put YPu.row) (by omega) (by omega) (fun v2 d2 _ s2 ev2 t2 => ⟨vp_in_nI (by omega) (by omega), nm_e ?_⟩)
  refine M_num (lo := 0) (hi := 9) (s2.put YPu.row) (by omega) (by omega) (fun v3 d3 _ s3 ev3 t3 => ⟨vp_in_nI (by omega) (by omega), nm_e ?_⟩)
  have s4 : YS f n m0 (sB (sNum f n 0 9) (sB (sNum f n 0 9) (sNum f n 1 9 i))) (up d3 2 (16 + 8 * nT H) (nI v3)) := s3.put YPu.row
  have g5 : up d3 2 (16 + 8 * nT H) (nI v3) 0 5 = nI (nT H) := by rw [up_ne 0 (by omega), t3.2 5 (by omega), up_ne 0 (by omega), t2.2 5 (by omega), up_ne 0 (by omega), t1.2 5 (by omega), up_ne 0 (by omega)]; exact e5
  have bad : ∀ e, YS f n m0 (.inl e) (up d3 2 (16 + 8 * nT H) (nI v3)) → sTuM f n i = .inl e → (∀ i1 i2 i3, sNum f n 1 9 i = .inr i1 → sNum f n 0 9 i1 = .inr i2 → sNum f n 0 9 i2 = .inr i3 → False) → Ev SM MX5_readTune 65 [.ref 0, .int (nI k), .int (nI (nT H)), .int 1] [] (up d3 2 (16 + 8 * nT H) (nI v3)) (rV fun d20 => q d20) := by
    intro e hA es no
    exact M_notes_bad (c := 1) hb (by omega) hA g5 (fun d' s _ => h d' (by rw [es]; exact s) (fun i1 i2 i3 c g i' u1 u2 u3 u4 => absurd (no i1 i2 i3 u1 u2 u3) id))
  rcases z1 : sNum f n 1 9 i with e | i1
  · rw [z1] at s4
    exact bad e s4 (by unfold sTuM; rw [z1]; rfl) (fun i1 i2 i3 u1 _ _ => by rw [z1] at u1; cases u1)
  rw [z1] at s4
  have s5 : YS f n m0 (sB (sNum f n 0 9) (sNum f n 0 9 i1)) (up d3 2 (16 + 8 * nT H) (nI v3)) := s4
  rcases z2 : sNum f n 0 9 i1 with e | i2
  · rw [z2] at s5
    exact bad e s5 (by unfold sTuM; rw [z1]; show sB _ (sNum f n 0 9 i1) = _; rw [z2]; rfl) (fun j1 j2 j3 u1 u2 _ => by rw [z1] at u1; cases u1; rw [z2] at u2; cases u2)
  rw [z2] at s5
  have s6 : YS f n m0 (sNum f n 0 9 i2) (up d3 2 (16 + 8 * nT H) (nI v3)) := s5
  rcases z3 : sNum f n 0 9 i2 with e | i3
  · rw [z3] at s6
    exact bad e s6 (by unfold sTuM; rw [z1]; show sB _ (sNum f n 0 9 i1) = _; rw [z2]; show sB _ (sNum f n 0 9 i2) = _; rw [z3]; rfl) (fun j1 j2 j3 u1 u2 u3 => by rw [z1] at u1; cases u1; rw [z2] at u2; cases u2; rw [z3] at u3; cases u3)
  rw [z3] at s6
  have w1 := ev1 i i1 rfl z1
  have w2 := ev2 i1 i2 z1 z2
  have w3 := ev3 i2 i3 (by show sB (sNum f n 0 9) (sNum f n 1 9 i) = _; rw [z1]; exact z2) z3
  subst w1 w2 w3
  have es : sTuM f n i = sNt3 (sNt wM f n 8 1 i3 (g0 (tV f n i2))) := by unfold sTuM; rw [z1]; show sB _ (sNum f n 0 9 i1) = _; rw [z2]; show sB _ (sNum f n 0 9 i2) = _; rw [z3]; rfl
  refine M_notes (c := 1) hb 8 i3 (g0 (tV f n i2)) _ rfl (by omega) (by omega) s6 g5 (fun j hj => ?_) (fun d' s fr okk => h d' (by rw [es]; exact s) (fun j1 j2 j3 c g i' u1 u2 u3 u4 => ?_))
  · rw [show j = 0 by omega, Nat.add_zero, up_s]; rfl
  · rw [z1] at u1; cases u1
    rw [z2] at u2; cases u2
    rw [z3] at u3; cases u3
    obtain ⟨o5, o1, o2, o3⟩ := okk c g i' u4
    obtain ⟨r1, r2⟩ := fr
    refine ⟨h0, Y2_aT ok hb o1 hY (fun j q1 q2 q3 q4 q5 => ?_) o5 ?_ ?_ ?_ ?_ o2 ?_ ?_ o3⟩
    · rw [r1 j q5 q2, up_n (by omega), t3.1 2 (by omega), up_n (by omega), t2.1 2 (by omega), up_n (by omega), t1.1 2 (by omega), up_n (by omega)]
    · rw [r2 6 (by omega) (by omega), up_ne 0 (by omega), t3.2 6 (by omega), up_ne 0 (by omega), t2.2 6 (by omega), up_ne 0 (by omega), t1.2 6 (by omega), up_ne 0 (by omega)]
    · rw [r2 7 (by omega) (by omega), up_ne 0 (by omega), t3.2 7 (by omega), up_ne 0 (by omega), t2.2 7 (by omega), up_ne 0 (by omega), t1.2 7 (by omega), up_ne 0 (by omega)]
    · rw [r2 8 (by omega) (by omega), up_ne 0 (by omega), t3.2 8 (by omega), up_ne 0 (by omega), t2.2 8 (by omega), up_ne 0 (by omega), t1.2 8 (by omega), up_ne 0 (by omega)]
    · rw [r1 _ (by omega) (by omega), up_n (by omega), t3.1 2 (by omega), up_n (by omega), t2.1 2 (by omega), up_n (by omega), t1.1 2 (by omega), up_s]
    · rw [r1 _ (by omega) (by omega), up_n (by omega), t3.1 2 (by omega), up_n (by omega), t2.1 2 (by omega), up_s]
    · rw [r1 _ (by omega) (by omega), up_n (by omega), t3.1 2 (by omega), up_s]
theorem PY_Tu {f : Nat → Nat} {n i k : Nat} {m0 d d' : DD} {H : HH} (hS : YS f n m0 (sB (sSgn f n) (sTuM f n i)) d') (t : YTf d d') (ho : ∀ i1 i2 i3 c g i', sNum f n 1 9 i = .inr i1 → sNum f n 0 9 i1 = .inr i2 → sNum f n 0 9 i2 = .inr i3 → sNt wM f n 8 1 i3 (g0 (tV f n i2)) = .inr (c, g, i') → ∃ h, Y2 d (aT H k (tV f n i) (tV f n i1) c g) h) : PY f n m0 (rTu wM f n i k H) d' := by
  unfold rTu
  unfold sTuM at hS
  rcases z1 : sNum f n 1 9 i with e | i1
  · rw [z1] at hS; exact hS
  rw [z1] at hS
  have hS : YS f n m0 (sB (sSgn f n) (sB (fun i2 => sB (fun i3 => sNt3 (sNt wM f n 8 1 i3 (g0 (tV f n i2)))) (sNum f n 0 9 i2)) (sNum f n 0 9 i1))) d' := hS
  show PY f n m0 (rB _ (sNum f n 0 9 i1)) d'
  rcases z2 : sNum f n 0 9 i1 with e | i2
  · rw [z2] at hS; exact hS
  rw [z2] at hS
  have hS : YS f n m0 (sB (sSgn f n) (sB (fun i3 => sNt3 (sNt wM f n 8 1 i3 (g0 (tV f n i2)))) (sNum f n 0 9 i2))) d' := hS
  show PY f n m0 (rB _ (sNum f n 0 9 i2)) d'
  rcases z3 : sNum f n 0 9 i2 with e | i3
  · rw [z3] at hS; exact hS
  rw [z3] at hS
  have hS : YS f n m0 (sB (sSgn f n) (sNt3 (sNt wM f n 8 1 i3 (g0 (tV f n i2))))) d' := hS
  have ho := ho i1 i2 i3
  show PY f n m0 (match sNt wM f n 8 1 i3 (g0 (tV f n i2)) with
    | .inl e => .inl e
    | .inr z => rB (fun i4 => .inr (aT H k (tV f n i) (tV f n i1) z.1 z.2.1, i4)) (sSgn f n z.2.2)) d'
  rcases z4 : sNt wM f n 8 1 i3 (g0 (tV f n i2)) with e | ⟨c, g, i'⟩
  · rw [z4] at hS; exact hS
  rw [z4] at hS
  have hS : YS f n m0 (sSgn f n i') d' := hS
  obtain ⟨hh, y⟩ := ho c g i' z1 z2 z3 z4
  show PY f n m0 (rB _ (sSgn f n i')) d'
  rcases z5 : sSgn f n i' with e | i4
  · rw [z5] at hS; exact hS
  rw [z5] at hS
  exact ⟨hS, hh, y.tf t⟩
theorem PY_Pl {f : Nat → Nat} {n i : Nat} {m0 d d' : DD} {H : HH} (hS : YS f n m0 (sB (sSgn f n) (sP4 f n i)) d') (t : YTf d d') (ho : ∀ i1 i2 i3 i4, sNum f n 0 9 i = .inr i1 → sNum f n 1 99 i1 = .inr i2 → sNum f n 0 9 i2 = .inr i3 → sNum f n 0 3 i3 = .inr i4 → ∃ h, Y2 d (aP H (tV f n i) (tV f n i1) (tV f n i2) (tV f n i3)) h) : PY f n m0 (rPl f n i H) d' := by
  unfold rPl
  unfold sP4 at hS
  rcases z1 : sNum f n 0 9 i with e | i1
  · rw [z1] at hS; exact hS
  rw [z1] at hS
  have hS : YS f n m0 (sB (sSgn f n) (sB (sNum f n 0 3) (sB (sNum f n 0 9) (sNum f n 1 99 i1)))) d' := hS
  show PY f n m0 (rB _ (sNum f n 1 99 i1)) d'
  rcases z2 : sNum f n 1 99 i1 with e | i2
  · rw [z2] at hS; exact hS
  rw [z2] at hS
  have hS : YS f n m0 (sB (sSgn f n) (sB (sNum f n 0 3) (sNum f n 0 9 i2))) d' := hS
  show PY f n m0 (rB _ (sNum f n 0 9 i2)) d'
  rcases z3 : sNum f n 0 9 i2 with e | i3
  · rw [z3] at hS; exact hS
  rw [z3] at hS
  have hS : YS f n m0 (sB (sSgn f n) (sNum f n 0 3 i3)) d' := hS
  show PY f n m0 (rB _ (sNum f n 0 3 i3)) d'
  rcases z4 : sNum f n 0 3 i3 with e | i4
  · rw [z4] at hS; exact hS
  rw [z4] at hS
  have hS : YS f n m0 (sSgn f n i4) d' := hS
  obtain ⟨hh, y⟩ := ho i1 i2 i3 i4 z1 z2 z3 z4
  show PY f n m0 (rB _ (sSgn f n i4)) d'
  rcases z5 : sSgn f n i4 with e | i5
  · rw [z5] at hS; exact hS
  rw [z5] at hS
  exact ⟨hS, hh, y.tf t⟩
theorem PY_Bd {f : Nat → Nat} {n i : Nat} {m0 d d' : DD} {H : HH} (hS : YS f n m0 (sB (sSgn f n) (sNum f n 0 3 i)) d') (t : YTf d d') (ho : ∀ i1, sNum f n 0 3 i = .inr i1 → ∃ h, Y2 d (aB H (tV f n i)) h) : PY f n m0 (rBd f n i H) d' := by
  unfold rBd
  rcases z1 : sNum f n 0 3 i with e | i1
  · rw [z1] at hS; exact hS
  rw [z1] at hS
  have hS : YS f n m0 (sSgn f n i1) d' := hS
  obtain ⟨hh, y⟩ := ho i1 z1
  show PY f n m0 (rB _ (sSgn f n i1)) d'
  rcases z5 : sSgn f n i1 with e | i5
  · rw [z5] at hS; exact hS
  rw [z5] at hS
  exact ⟨hS, hh, y.tf t⟩
/-! the six names -/
def ctN : List Nat := [0, 5, 10, 15, 22, 28, 33]
theorem ct_nI : ∀ k : Fin 7, cutsC.getD k.1 0 = nI (ctN.getD k.1 0) := by decide +kernel
theorem ct_len : ∀ k : Fin 6, ctN.getD (k.1 + 1) 0 = ctN.getD k.1 0 + strLen.getD k.1 0 ∧ ctN.getD (k.1 + 1) 0 ≤ 33 := by decide +kernel
theorem ct_let : ∀ (k : Fin 6) (j : Fin 7), j.1 < strLen.getD k.1 0 → lettC.getD (ctN.getD k.1 0 + j.1) 0 = (strByt.getD k.1 []).getD j.1 0 := by decide +kernel
theorem M_nameHere {q : Int32 → DD → Prop} {m0 : DD} {f : Nat → Nat} {n i : Nat} {d : DD} (hB : YB f n m0 d) (hi : i ≤ n) (c4 : tK f n i ≠ 4) (hT : YT f n i d) (h : ∀ k, k < 6 → nmK f n i k = true → (∀ y, y < k → nmK f n i y = false) → q (nI k) d) (h0 : (∀ y, y < 6 → nmK f n i y = false) → q (-4) d) : Cn SM MX5_nameHere [.ref 0] d (rI q) := by
  unfold YT at hT; rw [if_neg c4] at hT
  obtain ⟨t12, t14, t15, t16, t17⟩ := hT
  obtain ⟨b1, b2, b3, b4, ⟨rc1, rc2⟩, b6, b7⟩ := id hB
  have hK := tK_le (f := f) (n := n) (i := i)
  have hle := tN_le (f := f) hi
  have hge := tN_ge (f := f) (n := n) (i := i)
  refine cn_X5_nameHere ?_
  rw [li_0]
  suffices hs : ∀ r k, r + k = 6 → (∀ y, y < k → nmK f n i y = false) → Ev SM MX5_nameHere 2 [.ref 0, .int (nI k), uJ, uJ] [] d (rI q) from hs 6 0 rfl (fun y hy => absurd hy (Nat.not_lt_zero y))
  intro r
  induction r with
  | zero =>
    intro k hk ha
    exact bk_X5_nameHere_2 (br_t (nI_le (a := 6) (by omega) (by omega)) (h0 (fun y hy => ha y (by omega))))
  | succ r ih =>
    intro k hk ha
    have hk6 : k < 6 := by omega
    obtain ⟨cl1, cl2⟩ := ct_len ⟨k, hk6⟩
    have cl1' : ctN.getD (k + 1) 0 = ctN.getD k 0 + strLen.getD k 0 := cl1
    have cl2' : ctN.getD (k + 1) 0 ≤ 33 := cl2
    have h7 : strLen.getD k 0 ≤ 7 := strLen7 ⟨k, hk6⟩
    have nx : nmK f n i k = false → Ev SM MX5_nameHere 2 [.ref 0, .int (nI (k + 1)), uJ, uJ] [] d (rI q) := fun e => ih (k + 1) (by omega) (fun y hy => by
      by_cases cy : y = k
      · rw [cy]; exact e
      · exact ha y (by omega))
    refine bk_X5_nameHere_2 (br_f (fun z => absurd ((nI_leI (a := 6) (by omega) (by omega)).mp z) (by omega)) ?_)
    rw [t16]
    by_cases c1 : tK f n i = 1
    · refine rr_t (by rw [c1]; rfl) ?_
      have e1 : d 4 k = nI (ctN.getD k 0) := (rc1 k (by omega)).trans (ct_nI ⟨k, (by omega)⟩)
      have e2 : d 4 (k + 1) = nI (ctN.getD (k + 1) 0) := (rc1 (k + 1) (by omega)).trans (ct_nI ⟨k + 1, (by omega)⟩)
      rw [nI_1, nI_clamp (by omega), nI_clamp (by omega), e1, e2, t14, t15, pk_sub hge, pk_sub (show ctN.getD k 0 ≤ ctN.getD (k + 1) 0 by omega), cl1', Nat.add_sub_cancel_left]
      refine ⟨vp_in_nI (by omega) (by omega), vp_in_nI (by omega) (by omega), ?_⟩
      -- not this one
      have no : ∀ l3 : Int32, nmI f k (tP f n i) (tN f n i) = false → Ev SM MX5_nameHere 51 [.ref 0, .int (nI k), .int 0, .int l3] [] d (rI q) := by
        intro l3 hf
        refine bk_X5_nameHere_51 (br_t rfl (br_t rfl ?_))
        rw [nI_1]
        exact nx (by unfold nmK; rw [hf, Bool.and_false])
      by_cases cl : tN f n i - tP f n i = strLen.getD k 0
      · refine rr_t (by rw [cl]) ?_
        rw [li_0]
        suffices hs : ∀ s j, s + j = strLen.getD k 0 → (∀ y, y < j → nI (f (tP f n i + y)) = (strByt.getD k []).getD y 0) → Ev SM MX5_nameHere 51 [.ref 0, .int (nI k), .int 1, .int (nI j)] [] d (rI q) from hs _ 0 (Nat.add_zero _) (fun y hy => absurd hy (Nat.not_lt_zero y))
        intro s
        induction s with
        | zero =>
          intro j hj hy
          refine bk_X5_nameHere_51 (br_f (by decide) (br_t ?_ (br_f (by decide) (h k hk6 ?_ ha))))
          · rw [t14, t15, pk_sub hge]; exact nI_le (by omega) (by omega)
          · unfold nmK; rw [decide_eq_true c1, nmI_t cl (fun y hy2 => hy y (by omega))]; rfl
        | succ s ihs =>
          intro j hj hy
          have hjl : j < strLen.getD k 0 := by omega
          refine bk_X5_nameHere_51 (br_f (by decide) (br_f ?_ ?_))
          · rw [t14, t15, pk_sub hge]; exact fun z => absurd ((nI_leI (by omega) (by omega)).mp z) (by omega)
          rw [t15, nI_add]
          refine M_byte hB (by omega) (fun c => ?_) (fun c => absurd (show tP f n i + j < n by omega) c)
          rw [nI_clamp (by omega), e1, nI_add, nI_clamp (by omega), rc2 _ (by omega), nI_1]
          have el : lettC.getD (ctN.getD k 0 + j) 0 = (strByt.getD k []).getD j 0 := ct_let ⟨k, hk6⟩ ⟨j, (by omega)⟩ hjl
          rw [el]
          refine ⟨vp_in_nI (by omega) (by omega), vp_in_nI (by omega) (by omega), ?_⟩
          by_cases ce : nI (f (tP f n i + j)) = (strByt.getD k []).getD j 0
          · exact rr_t ce (ihs (j + 1) (by omega) (fun y hy2 => by
              by_cases cy : y = j
              · rw [cy]; exact ce
              · exact hy y (by omega)))
          · exact rr_f ce (no _ (nmI_f hjl ce))
      · exact rr_f (lit_ne (by omega) (by omega) cl) (no _ (nmI_l cl))
    · refine rr_f (lit_ne (b := 1) (by omega) (by omega) c1) (h0 (fun y hy => ?_))
      unfold nmK; rw [decide_eq_false c1, Bool.false_and]
