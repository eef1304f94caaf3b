/-! ===== the reference reads tokens ===== -/
def frJ (j : Nat) : Prop := j = 5 ∨ j = 6 ∨ j = 7 ∨ j = 8 ∨ (12 ≤ j ∧ j ≤ 17)
/-- the tape, and what isn't the reading's -/
def YB (f : Nat → Nat) (n : Nat) (m0 d : DD) : Prop := n ≤ 160 ∧ (∀ i, i < n → f i ≤ 127) ∧ d 0 10 = nI n ∧ (∀ i, i < n → d 3 i = nI (f i)) ∧ RC d ∧ (∀ a, a ≠ 0 → a ≠ 2 → d a = m0 a) ∧ ∀ j, ¬ frJ j → d 0 j = m0 0 j
/-- only the tokens' numbers are changed -/
def YTf (d d' : DD) : Prop := (∀ a, a ≠ 0 → d' a = d a) ∧ ∀ j, ¬ (12 ≤ j ∧ j ≤ 17) → d' 0 j = d 0 j
theorem YTf.rf {d : DD} : YTf d d := ⟨fun _ _ => rfl, fun _ _ => rfl⟩
theorem YTf.tr {a b c : DD} (h : YTf a b) (h2 : YTf b c) : YTf a c := ⟨fun x hx => (h2.1 x hx).trans (h.1 x hx), fun j hj => (h2.2 j hj).trans (h.2 j hj)⟩
theorem YTf.up {d : DD} {j : Nat} {v : Int32} (h1 : 12 ≤ j) (h2 : j ≤ 17) : YTf d (up d 0 j v) := ⟨fun a ha => up_ne a (by omega), fun i hi => up_n (by omega)⟩
theorem YB.tf {f : Nat → Nat} {n : Nat} {m0 d d' : DD} (h : YB f n m0 d) (t : YTf d d') : YB f n m0 d' := by
  obtain ⟨h1, h2, h3, h4, h5, h6, h7⟩ := h
  refine ⟨h1, h2, by rw [t.2 10 (by omega)]; exact h3, fun i hi => by rw [t.1 3 (by omega)]; exact h4 i hi, h5.k (t.1 4 (by omega)) (t.1 5 (by omega)), fun a ha hb => by rw [t.1 a ha]; exact h6 a ha hb, fun j hj => ?_⟩
  rw [t.2 j (fun z => hj (Or.inr (Or.inr (Or.inr (Or.inr z)))))]; exact h7 j hj
/-- a put onto the page that is read, or of its counts -/
theorem YB.put {f : Nat → Nat} {n : Nat} {m0 d d' : DD} (h : YB f n m0 d) (ha : ∀ a, a ≠ 0 → a ≠ 2 → d' a = d a) (hj : ∀ j, ¬ frJ j → d' 0 j = d 0 j) : YB f n m0 d' := by
  obtain ⟨h1, h2, h3, h4, h5, h6, h7⟩ := h
  exact ⟨h1, h2, by rw [hj 10 (by unfold frJ; omega)]; exact h3, fun i hi => by rw [ha 3 (by omega) (by omega)]; exact h4 i hi, h5.k (ha 4 (by omega) (by omega)) (ha 5 (by omega) (by omega)), fun a u v => by rw [ha a u v]; exact h6 a u v, fun j u => by rw [hj j u]; exact h7 j u⟩
theorem M_byte {q : Int32 → DD → Prop} {m0 : DD} {f : Nat → Nat} {n k : Nat} {d : DD} (hB : YB f n m0 d) (hk : k < 2 ^ 31) (h1 : k < n → q (nI (f k)) d) (h0 : ¬ k < n → q (-4) d) : Cn SM MX5_byteAt [.ref 0, .int (nI k)] d (rI q) := by
  obtain ⟨b1, b2, b3, b4, b5⟩ := hB
  refine cn_X5_byteAt ?_
  rw [b3]
  by_cases c : k < n
  · refine br_f (fun z => absurd ((nI_leI (by omega) hk).mp z) (by omega)) ⟨vp_in_nI (show k < 160 by omega) (by omega), ?_⟩
    rw [nI_clamp hk, b4 k c]; exact h1 c
  · exact br_t ((nI_leI (by omega) hk).mpr (by omega)) (h0 c)
theorem M_wlh {q : Int32 → DD → Prop} {d : DD} {w : Nat} (lo hi : Nat) (hw : w < 2 ^ 31) (hl : lo < 2 ^ 31) (hh : hi < 2 ^ 31) (h1 : lo ≤ w ∧ w ≤ hi → q 1 d) (h0 : ¬ (lo ≤ w ∧ w ≤ hi) → q 0 d) : Cn SM MX5_in [.long (nI w).toInt64, .long (lN lo), .long (lN hi)] d (rI q) := by
  refine M_inL (fun a b => h1 ?_) (fun z => h0 (fun y => z ?_))
  · rw [Int32.toInt_toInt64, nI_toInt hw, lN_toInt hl] at a
    rw [Int32.toInt_toInt64, nI_toInt hw, lN_toInt hh] at b
    exact ⟨(by omega), (by omega)⟩
  · rw [Int32.toInt_toInt64, nI_toInt hw, lN_toInt hl, lN_toInt hh]
    exact ⟨(by omega), (by omega)⟩
theorem M_wm4 {q : Int32 → DD → Prop} {d : DD} {lo hi : Nat} (hl : lo < 2 ^ 31) (h0 : q 0 d) : Cn SM MX5_in [.long ((-4 : Int32)).toInt64, .long (lN lo), .long (lN hi)] d (rI q) := by
  refine M_inL (fun a b => ?_) (fun _ => h0)
  rw [show ((-4 : Int32)).toInt64.toInt = -4 from by decide, lN_toInt hl] at a
  omega
theorem M_fails {q : DD → Prop} {d : DD} {c : Nat} (h1 : d 0 12 = 0 → q (up (up d 0 12 (nI c)) 0 13 (d 0 15))) (h0 : ¬ d 0 12 = 0 → q d) : Cn SM MX5_fails [.ref 0, .int (nI c)] d (rV q) := by
  refine cn_X5_fails ⟨h0, fun e => nm_e (nm_e ?_)⟩
  rw [up_n (by omega)]
  exact h1 e
/-- what stands when the token behind the place i is the current one -/
def YT (f : Nat → Nat) (n i : Nat) (d : DD) : Prop := if tK f n i = 4 then d 0 12 = nI 1 ∧ d 0 13 = nI (tP f n i) else d 0 12 = nI 0 ∧ d 0 14 = nI (tN f n i) ∧ d 0 15 = nI (tP f n i) ∧ d 0 16 = nI (tK f n i) ∧ (tK f n i = 2 → d 0 17 = nI (tV f n i))
theorem YT_4 {f : Nat → Nat} {n i : Nat} {d : DD} (h : tK f n i = 4) (h1 : d 0 12 = nI 1) (h2 : d 0 13 = nI (tP f n i)) : YT f n i d := by unfold YT; rw [if_pos h]; exact ⟨h1, h2⟩
theorem YT_n {f : Nat → Nat} {n i : Nat} {d : DD} (h : tK f n i ≠ 4) (h1 : d 0 12 = nI 0) (h2 : d 0 14 = nI (tN f n i)) (h3 : d 0 15 = nI (tP f n i)) (h4 : d 0 16 = nI (tK f n i)) (h5 : tK f n i = 2 → d 0 17 = nI (tV f n i)) : YT f n i d := by unfold YT; rw [if_neg h]; exact ⟨h1, h2, h3, h4, h5⟩
theorem lcn (k : Nat) : ((k : Nat) : Nat) = k := rfl
theorem M_step {q : DD → Prop} {m0 : DD} {f : Nat → Nat} {n i : Nat} {d : DD} (hi : i ≤ n) (hB : YB f n m0 d) (h12 : d 0 12 = nI 0) (h14 : d 0 14 = nI i) (h : ∀ d', YTf d d' → YT f n i d' → q d') : Cn SM MX5_step [.ref 0] d (rV q) := by
  obtain ⟨b1, b2, b3, b4, b5, b6, b7⟩ := id hB
  have hp := tP_le (f := f) hi
  have hpi := tP_ge (f := f) (n := n) (i := i)
  have l97 : (97 : Int64) = lN 97 := rfl
  have l122 : (122 : Int64) = lN 122 := rfl
  have l48 : (48 : Int64) = lN 48 := rfl
  have l57 : (57 : Int64) = lN 57 := rfl
  -- letters
  have k84 : ∀ r j (l1 : Int32) d1, n - j = r → tP f n i < n → isLe f (tP f n i) = true → j ≤ n → sc (isLe f) n j = sc (isLe f) n (tP f n i) → YTf d d1 → d1 0 12 = nI 0 → d1 0 14 = nI j → d1 0 15 = nI (tP f n i) → Ev SM MX5_step 84 [.ref 0, .int l1] [] d1 (rV q) := by
    intro r
    induction r with
    | zero =>
      intro j l1 d1 hr hlt hl hj hs t1 e12 e14 e15
      have eK : tK f n i = 1 := by unfold tK kAt; rw [if_pos hlt, if_pos hl]
      have eN : tN f n i = sc (isLe f) n (tP f n i) := by unfold tN nAt; rw [if_pos hlt, if_pos hl]
      refine bk_X5_step_84 ?_
      rw [e14]
      refine M_byte (hB.tf t1) (by omega) (fun c => absurd c (by omega)) (fun _ => ?_)
      rw [l97, l122]
      refine M_wm4 (by omega) (y0' (nm_e (h _ (t1.tr (YTf.up (by omega) (by omega))) (YT_n (by omega) ?_ ?_ ?_ ?_ (fun z => absurd z (by omega))))))
      · rw [up_n (by omega)]; exact e12
      · rw [up_n (by omega), e14, eN, ← hs, sc_stop (fun z => by omega)]
      · rw [up_n (by omega)]; exact e15
      · rw [up_s, eK]; rfl
    | succ r ih =>
      intro j l1 d1 hr hlt hl hj hs t1 e12 e14 e15
      have eK : tK f n i = 1 := by unfold tK kAt; rw [if_pos hlt, if_pos hl]
      have eN : tN f n i = sc (isLe f) n (tP f n i) := by unfold tN nAt; rw [if_pos hlt, if_pos hl]
      have hjn : j < n := by omega
      have hf := b2 j hjn
      refine bk_X5_step_84 ?_
      rw [e14]
      refine M_byte (hB.tf t1) (by omega) (fun c => ?_) (fun c => absurd hjn c)
      rw [l97, l122]
      refine M_wlh 97 122 (by omega) (by omega) (by omega) (fun z => y1' (nm_e ?_)) (fun z => y0' (nm_e (h _ (t1.tr (YTf.up (by omega) (by omega))) (YT_n (by omega) ?_ ?_ ?_ ?_ (fun z => absurd z (by omega))))))
      · rw [e14, nI_1]
        exact ih (j + 1) l1 _ (by omega) hlt hl (by omega) (by rw [← hs, sc_go hjn (decide_eq_true z)]) (t1.tr (YTf.up (by omega) (by omega))) (by rw [up_n (by omega)]; exact e12) up_s (by rw [up_n (by omega)]; exact e15)
      · rw [up_n (by omega)]; exact e12
      · rw [up_n (by omega), e14, eN, ← hs, sc_stop (fun y => z (of_decide_eq_true y.2))]
      · rw [up_n (by omega)]; exact e15
      · rw [up_s, eK]; rfl
  -- figures
  have k140 : ∀ r j (l1 : Int32) d1, n - j = r → tP f n i < n → isLe f (tP f n i) ≠ true → isDi f (tP f n i) = true → tP f n i ≤ j → j ≤ n → sc (isDi f) n j = sc (isDi f) n (tP f n i) → YTf d d1 → d1 0 12 = nI 0 → d1 0 14 = nI j → d1 0 15 = nI (tP f n i) → d1 0 17 = nI (vlN f (tP f n i) (min 2 (j - tP f n i))) → Ev SM MX5_step 140 [.ref 0, .int l1] [] d1 (rV q) := by
    intro r
    have fin : ∀ j (l1 : Int32) d1, tP f n i < n → isLe f (tP f n i) ≠ true → isDi f (tP f n i) = true → tP f n i ≤ j → j ≤ n → sc (isDi f) n (tP f n i) = j → YTf d d1 → d1 0 12 = nI 0 → d1 0 14 = nI j → d1 0 15 = nI (tP f n i) → d1 0 17 = nI (vlN f (tP f n i) (min 2 (j - tP f n i))) → (∀ d6 : DD, d6 = up d1 0 16 2 → (((d6 0 14) - (d6 0 15)) ≤ 2 → q d6) ∧ (¬ ((d6 0 14) - (d6 0 15)) ≤ 2 → Cn SM MX5_fails [.ref 0, .int 1] d6 (rV fun d8 => q d8))) := by
      intro j l1 d1 hlt hl hd hpj hj hs t1 e12 e14 e15 e17
      have eN : tN f n i = j := by unfold tN nAt; rw [if_pos hlt, if_neg hl, if_pos hd, hs]
      refine nm_e ?_
      rw [up_n (by omega), up_n (by omega), e14, e15, pk_sub hpj]
      by_cases c2 : j - tP f n i ≤ 2
      · have eK : tK f n i = 2 := by unfold tK kAt; rw [if_pos hlt, if_neg hl, if_pos hd, hs, if_pos c2]
        refine br_t ((nI_leI (b := 2) (by omega) (by omega)).mpr c2) (h _ (t1.tr (YTf.up (by omega) (by omega))) (YT_n (by omega) ?_ ?_ ?_ ?_ (fun _ => ?_)))
        · rw [up_n (by omega)]; exact e12
        · rw [up_n (by omega), e14, eN]
        · rw [up_n (by omega)]; exact e15
        · rw [up_s, eK]; rfl
        · rw [up_n (by omega), e17, show min 2 (j - tP f n i) = j - tP f n i by omega]; unfold tV; rw [eN]
      · have eK : tK f n i = 4 := by unfold tK kAt; rw [if_pos hlt, if_neg hl, if_pos hd, hs, if_neg c2]
        refine br_f (fun z => absurd ((nI_leI (b := 2) (by omega) (by omega)).mp z) c2) (M_fails (c := 1) (fun _ => ?_) (fun z => absurd (by rw [up_n (by omega)]; exact e12) z))
        refine h _ (t1.tr ((YTf.up (by omega) (by omega)).tr ((YTf.up (by omega) (by omega)).tr (YTf.up (by omega) (by omega))))) (YT_4 eK ?_ ?_)
        · rw [up_n (by omega), up_s]
        · rw [up_s, up_n (by omega)]; exact e15
    induction r with
    | zero =>
      intro j l1 d1 hr hlt hl hd hpj hj hs t1 e12 e14 e15 e17
      refine bk_X5_step_140 ?_
      rw [e14]
      refine M_byte (hB.tf t1) (by omega) (fun c => absurd c (by omega)) (fun _ => ?_)
      rw [l48, l57]
      exact M_wm4 (by omega) (y0' (fin j l1 d1 hlt hl hd hpj hj (by rw [← hs, sc_stop (fun z => by omega)]) t1 e12 e14 e15 e17))
    | succ r ih =>
      intro j l1 d1 hr hlt hl hd hpj hj hs t1 e12 e14 e15 e17
      have hjn : j < n := by omega
      have hf := b2 j hjn
      refine bk_X5_step_140 ?_
      rw [e14]
      refine M_byte (hB.tf t1) (by omega) (fun c => ?_) (fun c => absurd hjn c)
      rw [l48, l57]
      refine M_wlh 48 57 (by omega) (by omega) (by omega) (fun z => y1' ?_) (fun z => y0' (fin j l1 d1 hlt hl hd hpj hj (by rw [← hs, sc_stop (fun y => z (of_decide_eq_true y.2))]) t1 e12 e14 e15 e17))
      have nx := fun d2 => ih (j + 1) l1 d2 (by omega) hlt hl hd (by omega) (by omega) (by rw [← hs, sc_go hjn (decide_eq_true z)])
      rw [e14, e15, pk_sub hpj, e17]
      by_cases c2 : 2 ≤ j - tP f n i
      · refine br_t ((nI_leI (a := 2) (by omega) (by omega)).mpr c2) (nm_e (nm_e ?_))
        rw [up_n (by omega), e14, nI_1]
        refine nx _ (t1.tr ((YTf.up (by omega) (by omega)).tr (YTf.up (by omega) (by omega)))) ?_ up_s ?_ ?_
        · rw [up_n (by omega), up_n (by omega)]; exact e12
        · rw [up_n (by omega), up_n (by omega)]; exact e15
        · rw [up_n (by omega), up_s, show min 2 (j + 1 - tP f n i) = min 2 (j - tP f n i) by omega]
      · refine br_f (fun y => absurd ((nI_leI (a := 2) (by omega) (by omega)).mp y) c2) (M_byte (hB.tf t1) (by omega) (fun c => nm_e (nm_e ?_)) (fun c => absurd hjn c))
        have hm : min 2 (j - tP f n i) = j - tP f n i := by omega
        have hvl := vlN_lt (f := f) (p := tP f n i) (j - tP f n i) (fun y h1 h2 => of_decide_eq_true (p := 48 ≤ f y ∧ f y ≤ 57) (sc_in (P := isDi f) (n := n) h1 (by rw [← hs]; exact Nat.lt_of_lt_of_le (show y < j by omega) sc_ge)))
        have h10 : 10 ^ (j - tP f n i) ≤ 10 ^ 1 := Nat.pow_le_pow_right (by decide) (by omega)
        rw [up_n (by omega), e14, nI_1, hm, li_10, pk_mul, nI_add, show (48 : Int32) = nI 48 from rfl, pk_sub (by omega)]
        refine nx _ (t1.tr ((YTf.up (by omega) (by omega)).tr (YTf.up (by omega) (by omega)))) ?_ up_s ?_ ?_
        · rw [up_n (by omega), up_n (by omega)]; exact e12
        · rw [up_n (by omega), up_n (by omega)]; exact e15
        · rw [up_n (by omega), up_s, show min 2 (j + 1 - tP f n i) = (j - tP f n i) + 1 by omega]
          show _ = nI (vlN f (tP f n i) (j - tP f n i) * 10 + (f (tP f n i + (j - tP f n i)) - 48))
          rw [show tP f n i + (j - tP f n i) = j by omega]
          congr 1
          omega
  -- behind the blanks
  have k8e : ∀ d1, YTf d d1 → d1 0 12 = nI 0 → d1 0 14 = nI (tP f n i) → (∀ d4 : DD, d4 = up d1 0 15 (d1 0 14) → Cn SM MX5_byteAt [.ref 0, .int (d4 0 14)] d4 (rI fun r6 d5 => (∀ d7 : DD, d7 = (up d5 0 17 0) → ((¬ r6 = (-4) → (Cn SM MX5_in [.long r6.toInt64, .long 97, .long 122] d7 (rI fun r10 d9 => ((r10 = 0 → (Cn SM MX5_in [.long r6.toInt64, .long 48, .long 57] d9 (rI fun r13 d12 => ((r13 = 0 → (∀ d15 : DD, d15 = (up d12 0 16 3) → (∀ d16 : DD, d16 = (up d15 0 14 ((d15 0 14) + 1)) → ((r6 = 59 → q d16) ∧ (¬ r6 = 59 → (Cn SM MX5_fails [.ref 0, .int 1] d16 (rV fun d18 => q d18))))))) ∧ (¬ r13 = 0 → Ev SM MX5_step 140 [.ref 0, .int r6] [] d12 (rV q)))))) ∧ (¬ r10 = 0 → Ev SM MX5_step 84 [.ref 0, .int r6] [] d9 (rV q)))))) ∧ (r6 = (-4) → (∀ d19 : DD, d19 = (up d7 0 16 0) → q d19)))))) := by
    intro d1 t1 e12 e14
    refine nm_e ?_
    rw [up_n (by omega), e14]
    have t2 : YTf d (up d1 0 15 (nI (tP f n i))) := t1.tr (YTf.up (by omega) (by omega))
    refine M_byte (hB.tf t2) (by omega) (fun c => nm_e ?_) (fun c => nm_e (rr_t rfl (nm_e ?_)))
    · have hf := b2 _ c
      have t3 : YTf d (up (up d1 0 15 (nI (tP f n i))) 0 17 0) := t2.tr (YTf.up (by omega) (by omega))
      have f12 : up (up d1 0 15 (nI (tP f n i))) 0 17 0 0 12 = nI 0 := by rw [up_n (by omega), up_n (by omega)]; exact e12
      have f14 : up (up d1 0 15 (nI (tP f n i))) 0 17 0 0 14 = nI (tP f n i) := by rw [up_n (by omega), up_n (by omega)]; exact e14
      have f15 : up (up d1 0 15 (nI (tP f n i))) 0 17 0 0 15 = nI (tP f n i) := by rw [up_n (by omega), up_s]
      have f17 : up (up d1 0 15 (nI (tP f n i))) 0 17 0 0 17 = nI 0 := by rw [up_s]; rfl
      generalize up (up d1 0 15 (nI (tP f n i))) 0 17 0 = d3 at t3 f12 f14 f15 f17 ⊢
      refine rr_f (ne_m4 (by omega)) ?_
      rw [l97, l122]
      by_cases cl : 97 ≤ f (tP f n i) ∧ f (tP f n i) ≤ 122
      · exact M_wlh 97 122 (by omega) (by omega) (by omega) (fun _ => y1' (k84 _ (tP f n i) _ d3 rfl c (decide_eq_true cl) hp rfl t3 f12 f14 f15)) (fun z => absurd cl z)
      · have cl' : isLe f (tP f n i) ≠ true := fun z => cl (of_decide_eq_true z)
        refine M_wlh 97 122 (by omega) (by omega) (by omega) (fun z => absurd z cl) (fun _ => y0' ?_)
        rw [l48, l57]
        by_cases cd : 48 ≤ f (tP f n i) ∧ f (tP f n i) ≤ 57
        · exact M_wlh 48 57 (by omega) (by omega) (by omega) (fun _ => y1' (k140 _ (tP f n i) _ d3 rfl c cl' (decide_eq_true cd) (Nat.le_refl _) hp rfl t3 f12 f14 f15 (by rw [f17, Nat.sub_self]; rfl))) (fun z => absurd cd z)
        · have cd' : ¬ isDi f (tP f n i) = true := fun z => cd (of_decide_eq_true z)
          have eN : tN f n i = tP f n i + 1 := by unfold tN nAt; rw [if_pos c, if_neg cl', if_neg cd']
          refine M_wlh 48 57 (by omega) (by omega) (by omega) (fun z => absurd z cd) (fun _ => y0' (nm_e (nm_e ?_)))
          rw [up_n (by omega), f14, nI_1]
          by_cases cs : f (tP f n i) = 59
          · have eK : tK f n i = 3 := by unfold tK kAt; rw [if_pos c, if_neg cl', if_neg cd', if_pos cs]
            refine br_t (by rw [cs]; rfl) (h _ (t3.tr ((YTf.up (by omega) (by omega)).tr (YTf.up (by omega) (by omega)))) (YT_n (by omega) ?_ ?_ ?_ ?_ (fun z => absurd z (by omega))))
            · rw [up_n (by omega), up_n (by omega)]; exact f12
            · rw [up_s, eN]
            · rw [up_n (by omega), up_n (by omega)]; exact f15
            · rw [up_n (by omega), up_s, eK]; rfl
          · have eK : tK f n i = 4 := by unfold tK kAt; rw [if_pos c, if_neg cl', if_neg cd', if_neg cs]
            refine br_f (lit_ne (b := 59) (by omega) (by omega) cs) (M_fails (c := 1) (fun _ => ?_) (fun z => absurd (by rw [up_n (by omega), up_n (by omega)]; exact f12) z))
            refine h _ (t3.tr ((YTf.up (by omega) (by omega)).tr ((YTf.up (by omega) (by omega)).tr ((YTf.up (by omega) (by omega)).tr (YTf.up (by omega) (by omega)))))) (YT_4 eK ?_ ?_)
            · rw [up_n (by omega), up_s]
            · rw [up_s, up_n (by omega), up_n (by omega)]; exact f15
    · have eN : tN f n i = tP f n i := by unfold tN nAt; rw [if_neg c]
      have eK : tK f n i = 0 := by unfold tK kAt; rw [if_neg c]
      refine h _ (t2.tr ((YTf.up (by omega) (by omega)).tr (YTf.up (by omega) (by omega)))) (YT_n (by omega) ?_ ?_ ?_ ?_ (fun z => absurd z (by omega)))
      · rw [up_n (by omega), up_n (by omega), up_n (by omega)]; exact e12
      · rw [up_n (by omega), up_n (by omega), up_n (by omega), eN]; exact e14
      · rw [up_n (by omega), up_n (by omega), up_s]
      · rw [up_s, eK]; rfl
  refine cn_X5_step (br_t (by rw [h12]; exact nI_le (a := 0) (b := 0) (by omega) (by omega)) ?_)
  suffices hs : ∀ r j d1, n - j = r → j ≤ n → sc (isBl f) n j = tP f n i → YTf d d1 → d1 0 12 = nI 0 → d1 0 14 = nI j → Ev SM MX5_step 8 [.ref 0, uJ] [] d1 (rV q) from hs _ i d rfl hi rfl YTf.rf h12 h14
  intro r
  induction r with
  | zero =>
    intro j d1 hr hj hsc t1 e12 e14
    refine bk_X5_step_8 ?_
    rw [e14]
    refine M_byte (hB.tf t1) (by omega) (fun c => absurd c (by omega)) (fun _ => rr_f (by decide) ?_)
    have ep : tP f n i = j := by rw [← hsc, sc_stop (fun z => by omega)]
    exact k8e d1 t1 e12 (by rw [ep]; exact e14)
  | succ r ih =>
    intro j d1 hr hj hsc t1 e12 e14
    have hjn : j < n := by omega
    have hf := b2 j hjn
    refine bk_X5_step_8 ?_
    rw [e14]
    refine M_byte (hB.tf t1) (by omega) (fun c => ?_) (fun c => absurd hjn c)
    by_cases c32 : f j = 32
    · refine rr_t (by rw [c32]; rfl) (nm_e ?_)
      rw [e14, nI_1]
      exact ih (j + 1) _ (by omega) (by omega) (by rw [← hsc, sc_go hjn (decide_eq_true c32)]) (t1.tr (YTf.up (by omega) (by omega))) (by rw [up_n (by omega)]; exact e12) up_s
    · refine rr_f (lit_ne (b := 32) (by omega) (by omega) c32) ?_
      have ep : tP f n i = j := by rw [← hsc, sc_stop (fun z => c32 (of_decide_eq_true z.2))]
      exact k8e d1 t1 e12 (by rw [ep]; exact e14)
