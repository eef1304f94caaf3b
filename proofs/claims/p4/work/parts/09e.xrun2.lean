/-- the first k tunes are prepared -/
def XQ (k : Nat) (d : DD) (H : HH) : Prop := ∀ t, t < k → t < nT H → d 39 t = -1 ∧ d 41 t = nI 0 ∧ d 45 t = nI (rowL (H 0 t) (H 1 t)) ∧ d 46 t = nI (lenO H t) ∧ ∀ i, i < rowL (H 0 t) (H 1 t) → d 47 (16 * t + i) = nI (noteN H t (H 0 t) i)
theorem X_prepareTune {q : DD → Prop} {d : DD} {b t : Nat} {H : HH} (Hb : isH b) (hX : XH b d H) (ok : OKH H) (hQ : XQ t d H) (ht : t < nT H) (h : ∀ d', XF d d' → XQ (t + 1) d' H → q d') : Cn SX MX1_prepareTune [.ref 38, .ref b, .int (nI t)] d (rV q) := by
  have o4 := ok.t4
  have ot := ok.tt ht
  have ol : lenO H t ≤ 144 := lenB_le (k := H 0 t) ot
  have hr := rowL_le (k := H 0 t) ot.2.2.1
  refine cn_X1_prepareTune Hb ⟨vp_in_nI (by omega) (by omega), nm_e ⟨vp_in_nI (by omega) (by omega), nm_e ⟨vp_in_nI (by omega) (by omega), nm_e ?_⟩⟩⟩
  rw [nI_clamp (by omega), hX.kind ht]
  have F1 : XF d (up (up d 39 t (-1)) 41 t 0) := (XF.rf.up (by omega) (by omega)).up (by omega) (by omega)
  refine X_lengthAs Hb (hX.xf Hb F1) ok ht ot.1 ⟨vp_in_nI (by omega) (by omega), nm_e ⟨vp_in_nI (by omega) (by omega), ?_⟩⟩
  have F2 : XF d (up (up (up d 39 t (-1)) 41 t 0) 46 t (nI (lenB H t (H 0 t)))) := F1.up (by omega) (by omega)
  rw [(hX.xf Hb F2).notes ht]
  refine X_rowLength ot.1 ot.2.2.1 ⟨vp_in_nI (by omega) (by omega), nm_e ?_⟩
  have F3 := F2.up (c := 45) (j := t) (v := nI (rowL (H 0 t) (H 1 t))) (by omega) (by omega)
  have G : ∀ t', t' < t → t' < nT H → (up (up (up (up d 39 t (-1)) 41 t 0) 46 t (nI (lenB H t (H 0 t)))) 45 t (nI (rowL (H 0 t) (H 1 t)))) 39 t' = -1 ∧ (up (up (up (up d 39 t (-1)) 41 t 0) 46 t (nI (lenB H t (H 0 t)))) 45 t (nI (rowL (H 0 t) (H 1 t)))) 41 t' = nI 0 ∧ (up (up (up (up d 39 t (-1)) 41 t 0) 46 t (nI (lenB H t (H 0 t)))) 45 t (nI (rowL (H 0 t) (H 1 t)))) 45 t' = nI (rowL (H 0 t') (H 1 t')) ∧ (up (up (up (up d 39 t (-1)) 41 t 0) 46 t (nI (lenB H t (H 0 t)))) 45 t (nI (rowL (H 0 t) (H 1 t)))) 46 t' = nI (lenO H t') ∧ ∀ i, i < rowL (H 0 t') (H 1 t') → (up (up (up (up d 39 t (-1)) 41 t 0) 46 t (nI (lenB H t (H 0 t)))) 45 t (nI (rowL (H 0 t) (H 1 t)))) 47 (16 * t' + i) = nI (noteN H t' (H 0 t') i) := by
    intro t' h1 h2
    obtain ⟨a1, a2, a3, a4, a5⟩ := hQ t' h1 h2
    have : t' ≠ t := by omega
    refine ⟨?_, ?_, ?_, ?_, fun i hi => ?_⟩
    · simpa [up_rd, this] using a1
    · simpa [up_rd, this] using a2
    · simpa [up_rd, this] using a3
    · simpa [up_rd, this] using a4
    · simpa [up_rd, this] using a5 i hi
  have G2 : (up (up (up (up d 39 t (-1)) 41 t 0) 46 t (nI (lenB H t (H 0 t)))) 45 t (nI (rowL (H 0 t) (H 1 t)))) 39 t = -1 ∧ (up (up (up (up d 39 t (-1)) 41 t 0) 46 t (nI (lenB H t (H 0 t)))) 45 t (nI (rowL (H 0 t) (H 1 t)))) 41 t = nI 0 ∧ (up (up (up (up d 39 t (-1)) 41 t 0) 46 t (nI (lenB H t (H 0 t)))) 45 t (nI (rowL (H 0 t) (H 1 t)))) 45 t = nI (rowL (H 0 t) (H 1 t)) ∧ (up (up (up (up d 39 t (-1)) 41 t 0) 46 t (nI (lenB H t (H 0 t)))) 45 t (nI (rowL (H 0 t) (H 1 t)))) 46 t = nI (lenO H t) := by
    refine ⟨by simp [up_rd], by simp [up_rd]; rfl, by simp [up_rd], by simp [up_rd]; rfl⟩
  generalize (up (up (up (up d 39 t (-1)) 41 t 0) 46 t (nI (lenB H t (H 0 t)))) 45 t (nI (rowL (H 0 t) (H 1 t)))) = d3 at F3 G G2 ⊢
  rw [li_0]
  refine for_up (W := fun i d' => Ev SX MX1_prepareTune 52 [.ref 38, .ref b, .int (nI t), .int (nI (H 0 t)), .int (nI i)] [] d' (rV q)) (I := fun i d' => XF d d' ∧ (∀ c j, c ≠ 47 → d' c j = d3 c j) ∧ (∀ t', t' < t → ∀ i', i' < 16 → d' 47 (16 * t' + i') = d3 47 (16 * t' + i')) ∧ ∀ i', i' < i → d' 47 (16 * t + i') = nI (noteN H t (H 0 t) i')) (rowL (H 0 t) (H 1 t)) ?_ ?_ 0 d3 (Nat.zero_le _) ⟨F3, fun _ _ _ => rfl, fun _ _ _ _ => rfl, fun _ h => absurd h (Nat.not_lt_zero _)⟩
  · rintro d' ⟨hF, hc, h47, hi⟩
    refine bk_X1_prepareTune_52 Hb ⟨vp_in_nI (by omega) (by omega), fun _ => h d' hF (fun t' h1 h2 => ?_), fun c => absurd ?_ c⟩
    · by_cases e : t' = t
      · subst e
        exact ⟨(hc 39 _ (by decide)).trans G2.1, (hc 41 _ (by decide)).trans G2.2.1, (hc 45 _ (by decide)).trans G2.2.2.1, (hc 46 _ (by decide)).trans G2.2.2.2, hi⟩
      · obtain ⟨a1, a2, a3, a4, a5⟩ := G t' (by omega) h2
        have hr' := rowL_le (k := H 0 t') (ok.tt h2).2.2.1
        exact ⟨(hc 39 _ (by decide)).trans a1, (hc 41 _ (by decide)).trans a2, (hc 45 _ (by decide)).trans a3, (hc 46 _ (by decide)).trans a4, fun i hi => by rw [h47 t' (by omega) i (by omega)]; exact a5 i hi⟩
    · rw [nI_clamp (by omega), hc 45 _ (by decide), G2.2.2.1]; exact nI_le (Nat.le_refl _) (by omega)
  · rintro i d' hi ⟨hF, hc, h47, hno⟩ ih
    refine bk_X1_prepareTune_52 Hb ⟨vp_in_nI (by omega) (by omega), fun c => ?_, fun _ => ?_⟩
    · rw [nI_clamp (by omega), hc 45 _ (by decide), G2.2.2.1] at c
      exact absurd ((nI_leI (by omega) (by omega)).mp c) (by omega)
    · refine X_rowNote Hb (hX.xf Hb hF) ok ht ot.1 hi ?_
      rw [show nI t * 16 + nI i = nI (16 * t + i) from by rw [li_16, pk_mul, nI_add, Nat.mul_comm], nI_1]
      refine ⟨vp_in_nI (by omega) (by omega), nm_e ?_⟩
      rw [nI_clamp (by omega)]
      refine ih _ ⟨hF.up (by omega) (by omega), fun c j hne => ?_, fun t' h1 i' h2 => ?_, fun i' h2 => ?_⟩
      · rw [up_n (by omega)]; exact hc c j hne
      · rw [up_n (by omega)]; exact h47 t' h1 i' h2
      · rw [up_rd]
        by_cases e : i' = i
        · subst e; simp
        · rw [if_neg (by omega)]; exact hno i' (by omega)
/-- the numbers behind a playing -/
def XE (d : DD) (H : HH) (P : PL) : Prop := (∀ t, t < nT H → P 0 t ≠ 0 ∧ d 39 t = nI (P 0 t - 1) ∧ d 40 t = nI (P 1 t) ∧ d 41 t = nI (P 2 t)) ∧ ∀ p, p < nP H → d 42 p = nI (P 4 p)
theorem XE_of {hn : Nat} {d : DD} {H : HH} {P P' : PL} (h : XP hn d H P) (ho : Pover H P) (hs : Psame P P') : XE d H P' := by
  refine ⟨fun t ht => ?_, fun p hp => ?_⟩
  · obtain ⟨a1, a2, a3⟩ := h.1 t ht
    have o := ho t ht
    rw [← hs 0 t (by decide), ← hs 1 t (by decide), ← hs 2 t (by decide)]
    refine ⟨o, ?_, a2 o, a3⟩
    rw [a1]; unfold hv; rw [if_neg o]
  · rw [← hs 4 p (by decide)]; exact (h.2.1 p hp).1
theorem X_run {q : DD → Prop} {d : DD} {b sil : Nat} {H : HH} (Hb : isH b) (hX : XH b d H) (ok : OKH H) (hs : sil < 2 ^ 30) (h : ∀ d', XF d d' → XE d' H (playS H sil) → q d') : Cn SX MX1_run [.ref 38, .ref b, .int (nI sil)] d (rV q) := by
  have o4 := ok.t4
  have op := ok.p4
  refine cn_X1_run Hb ?_
  rw [li_0]
  refine for_up (W := fun k d' => Ev SX MX1_run 2 [.ref 38, .ref b, .int (nI sil), .int (nI k), uJ, uJ] [] d' (rV q)) (I := fun k d' => XF d d' ∧ XQ k d' H) (nT H) ?_ ?_ 0 d (Nat.zero_le _) ⟨XF.rf, fun t h => absurd h (Nat.not_lt_zero t)⟩
  · rintro d1 ⟨hF1, hQ1⟩
    refine bk_X1_run_2 Hb ⟨fun _ => ?_, fun c => absurd ?_ c⟩
    · rw [li_0]
      refine for_up (W := fun k d' => Ev SX MX1_run 24 [.ref 38, .ref b, .int (nI sil), .int (nI k), uJ, uJ] [] d' (rV q)) (I := fun k d' => XF d d' ∧ XQ (nT H) d' H ∧ ∀ p, p < k → p < nP H → d' 42 p = nI 0 ∧ d' 43 p = nI (if sil.testBit p then 0 else H 6 p)) (nP H) ?_ ?_ 0 d1 (Nat.zero_le _) ⟨hF1, hQ1, fun p h => absurd h (Nat.not_lt_zero p)⟩
      · rintro d2 ⟨hF2, hQ2, hB2⟩
        refine bk_X1_run_24 Hb ⟨fun _ => nm_e ?_, fun c => absurd ?_ c⟩
        · rw [(hX.xf Hb hF2).nt, li_0]
          have hF3 := hF2.up (c := 38) (j := 9) (v := nI (nT H)) (by omega) (by omega)
          have hP3 : XP 0 (up d2 38 9 (nI (nT H))) H (runS H sil 0) := by
            refine ⟨fun t ht => ?_, fun p hp => ?_, fun t h => absurd h (Nat.not_lt_zero t), ?_, fun t ht => ?_⟩
            · obtain ⟨a1, a2, a3, a4, a5⟩ := hQ2 t ht ht
              simp only [up_rd]
              simp
              exact ⟨a1, fun z => absurd rfl z, a2⟩
            · obtain ⟨a1, a2⟩ := hB2 p hp hp
              simp only [up_rd]
              simp
              exact ⟨a1, a2⟩
            · rw [up_s]
              congr 1
              have : ∀ n, aliveN (runS H sil 0) n = n := by
                intro n
                induction n with
                | zero => rfl
                | succ n ih => show aliveN (runS H sil 0) n + 1 = n + 1; rw [ih]
              rw [this]
            · obtain ⟨a1, a2, a3, a4, a5⟩ := hQ2 t ht ht
              simp only [up_rd]
              simp
              exact ⟨a3, a4, a5⟩
          refine for_up (W := fun m d' => Ev SX MX1_run 80 [.ref 38, .ref b, .int (nI sil), .int (nI m), uJ, uJ] [] d' (rV q)) (I := fun m d' => XF d d' ∧ XP 0 d' H (runS H sil m)) 160 ?_ ?_ 0 _ (Nat.zero_le _) ⟨hF3, hP3⟩
          · rintro d4 ⟨hF4, hP4⟩
            refine bk_X1_run_80 Hb ⟨fun _ => h d4 hF4 ?_, fun c => absurd (nI_le (Nat.le_refl 160) (by decide)) c⟩
            exact XE_of hP4 (fun t ht => pinv_over ok (runS_inv ok 160) (by decide) ht) (fun _ _ _ => rfl)
          · rintro m d4 hm ⟨hF4, hP4⟩ ih
            have hal := alive_le (runS H sil m) (nT H)
            refine bk_X1_run_80 Hb ⟨fun c => ?_, fun _ => ⟨fun c => ?_, fun c => ?_⟩⟩
            · exact absurd ((nI_leI (a := 160) (by omega) (by omega)).mp c) (by omega)
            · rw [hP4.2.2.2.1] at c
              have c := (nI_leI (b := 0) (by omega) (by omega)).mp c
              have ho : Pover H (runS H sil m) := alive_0 (by omega)
              refine h d4 hF4 (XE_of hP4 ho ?_)
              have := runS_over ho (160 - m)
              rw [show m + (160 - m) = 160 from by omega] at this
              exact this
            · rw [li_0]
              have hI := runS_inv (sil := sil) ok m
              generalize hPm : runS H sil m = P at hP4 hI
              have hA := hearA_pin2 ok hI
              refine for_up (W := fun t d' => Ev SX MX1_run 97 [.ref 38, .ref b, .int (nI sil), .int (nI m), .int (nI t), uJ] [] d' (rV q)) (I := fun t d' => XF d d' ∧ XP t d' H (hearA H m P t)) (nT H) ?_ ?_ 0 _ (Nat.zero_le _) ⟨hF4, hP4⟩
              · rintro d5 ⟨hF5, hP5⟩
                refine bk_X1_run_97 Hb ⟨fun _ => ?_, fun c => absurd ?_ c⟩
                · rw [nI_1]
                  refine X_crossAll Hb (hX.xf Hb hF5) ok hP5 (pin3_of (hA _ (Nat.le_refl _))) hm (fun d6 hF6 hP6 => ih d6 ⟨hF5.tr hF6, ?_⟩)
                  have e : runS H sil (m + 1) = minS H m (runS H sil m) := rfl
                  rw [e, hPm]
                  exact ⟨hP6.1, hP6.2.1, fun t h => absurd h (Nat.not_lt_zero t), hP6.2.2.2.1, hP6.2.2.2.2⟩
                · rw [(hX.xf Hb hF5).nt]; exact nI_le (Nat.le_refl _) (by omega)
              · rintro t d5 ht ⟨hF5, hP5⟩ ih5
                have hX5 := hX.xf Hb hF5
                have hIt := hA t (by omega)
                have he : hearA H m P (t + 1) = hearS H m (hearA H m P t) t := rfl
                rw [he] at ih5
                generalize hearA H m P t = Pt at hP5 hIt ih5
                have hst := (ok.tt ht).2.2.2.2.2.1
                have hov := (hIt.2.2.1 t ht).1
                have no : ∀ (c : Pt 0 t ≠ 0 ∨ m < H 3 t), Ev SX MX1_run 133 [.ref 38, .ref b, .int (nI sil), .int (nI m), .int (nI t), uJ] [.int 0] d5 (rV q) := by
                  intro c
                  refine bk_X1_run_133 Hb ⟨fun _ => ⟨vp_in_nI (by omega) (by omega), nm_e ?_⟩, fun c => absurd rfl c⟩
                  rw [nI_1, nI_clamp (by omega)]
                  refine ih5 _ ⟨hF5.up (by omega) (by omega), ?_⟩
                  have e : hearS H m Pt t = pu Pt 5 t 0 := by unfold hearS; rw [if_pos c]
                  rw [e]
                  exact (hP5.h5 (Nat.le_refl _)).next (by rw [pu_s]; rfl)
                refine bk_X1_run_97 Hb ⟨fun c => ?_, fun _ => ⟨vp_in_nI (by omega) (by omega), fun c => ?_, fun c => ⟨vp_in_nI (by omega) (by omega), fun c2 => ?_, fun c2 => ?_⟩⟩⟩
                · rw [hX5.nt] at c; exact absurd ((nI_leI (by omega) (by omega)).mp c) (by omega)
                · rw [nI_clamp (by omega), (hP5.1 t ht).1] at c
                  have c := mt (hv_m1 (n := Pt 0 t) (by omega)).mpr c
                  exact no (Or.inl c)
                · rw [nI_clamp (by omega), hX5.start ht] at c2
                  exact no (Or.inr ((nI_ltI (by omega) (by omega)).mp c2))
                · rw [nI_clamp (by omega), (hP5.1 t ht).1] at c
                  have c := (hv_m1 (n := Pt 0 t) (by omega)).mp c
                  rw [nI_clamp (by omega), hX5.start ht] at c2
                  have c2 := mt (nI_ltI (by omega) (by omega)).mpr c2
                  refine bk_X1_run_133 Hb ⟨fun c => absurd c (by decide), fun _ => ?_⟩
                  refine X_noteHeard Hb hX5 ok hP5 hIt ht hm c (by omega) (fun d6 hF6 hP6 => ⟨vp_in_nI (by omega) (by omega), nm_e ?_⟩)
                  rw [nI_1, nI_clamp (by omega)]
                  exact ih5 _ ⟨(hF5.tr hF6).up (by omega) (by omega), hP6.next rfl⟩
        · rw [(hX.xf Hb hF2).np]; exact nI_le (Nat.le_refl _) (by omega)
      · rintro p d2 hp ⟨hF2, hQ2, hB2⟩ ih
        refine bk_X1_run_24 Hb ⟨fun c => ?_, fun _ => ⟨vp_in_nI (by omega) (by omega), nm_e ?_⟩⟩
        · rw [(hX.xf Hb hF2).np] at c; exact absurd ((nI_leI (by omega) (by omega)).mp c) (by omega)
        · rw [nI_clamp (by omega), nI_1]
          have keepQ : ∀ v : Int32, XQ (nT H) (up (up d2 42 p 0) 43 p v) H := by
            intro v t h1 h2
            have := hQ2 t h1 h2
            simp only [up_rd]
            simpa using this
          have keepB : ∀ v : Int32, v = nI (if sil.testBit p then 0 else H 6 p) → ∀ p', p' < p + 1 → p' < nP H → (up (up d2 42 p 0) 43 p v) 42 p' = nI 0 ∧ (up (up d2 42 p 0) 43 p v) 43 p' = nI (if sil.testBit p' then 0 else H 6 p') := by
            intro v hv0 p' h1 h2
            by_cases e : p' = p
            · subst e; simp only [up_rd]; simp; exact ⟨rfl, hv0⟩
            · have := hB2 p' (by omega) h2
              simp only [up_rd]; simp [e]; exact this
          have hF3 := hF2.up (c := 42) (j := p) (v := 0) (by omega) (by omega)
          refine ⟨fun c => ⟨vp_in_nI (by omega) (by omega), vp_in_nI (by omega) (by omega), nm_e ?_⟩, fun c => ⟨vp_in_nI (by omega) (by omega), nm_e ?_⟩⟩
          · rw [(hX.xf Hb hF3).breath hp]
            refine ih _ ⟨hF3.up (by omega) (by omega), keepQ _, keepB _ ?_⟩
            have : sil.testBit p = false := by
              rcases hb : sil.testBit p with _ | _
              · rfl
              · exact absurd (bit_t (by omega) (by omega) hb) c
            rw [this]; rfl
          · refine ih _ ⟨hF3.up (by omega) (by omega), keepQ _, keepB _ ?_⟩
            have : sil.testBit p = true := by
              rcases hb : sil.testBit p with _ | _
              · have := bit_f (a := sil) (k := p) (by omega) (by omega) hb
                rw [this] at c; exact absurd c (by decide)
              · rfl
            rw [this]; rfl
    · rw [(hX.xf Hb hF1).nt]; exact nI_le (Nat.le_refl _) (by omega)
  · rintro t d1 ht ⟨hF1, hQ1⟩ ih
    refine bk_X1_run_2 Hb ⟨fun c => ?_, fun _ => ?_⟩
    · rw [(hX.xf Hb hF1).nt] at c; exact absurd ((nI_leI (by omega) (by omega)).mp c) (by omega)
    · rw [nI_1]
      exact X_prepareTune Hb (hX.xf Hb hF1) ok hQ1 ht (fun d2 hF hQ => ih d2 ⟨hF1.tr hF, hQ⟩)
