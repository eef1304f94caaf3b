theorem XP.h5 {hn t v : Nat} {d : DD} {H : HH} {P : PL} (h : XP hn d H P) (ht : hn ≤ t) : XP hn d H (pu P 5 t v) := by
  obtain ⟨h1, h2, h3, h4, h5⟩ := h
  refine ⟨fun t' ht' => ?_, fun p hp => ?_, fun t' h6 ht' => ?_, ?_, h5⟩
  · simpa [pu_rd] using h1 t' ht'
  · simpa [pu_rd] using h2 p hp
  · rw [pu_n (by omega)]; exact h3 t' h6 ht'
  · rw [h4]; congr 1
theorem XP.next {t : Nat} {d : DD} {H : HH} {P : PL} {r : Int32} (h : XP t d H P) (hr : r = hv (P 5 t)) : XP (t + 1) (up d 44 t r) H P := by
  obtain ⟨h1, h2, h3, h4, h5⟩ := h
  refine ⟨fun t' ht' => ?_, fun p hp => ?_, fun t' h6 ht' => ?_, ?_, fun t' ht' => ?_⟩
  · simpa [up_rd] using h1 t' ht'
  · simpa [up_rd] using h2 p hp
  · rw [up_rd]
    by_cases e : t' = t
    · subst e; simp [hr]
    · rw [if_neg (by omega)]; exact h3 t' (by omega) ht'
  · simpa [up_rd] using h4
  · simpa [up_rd] using h5 t' ht'
theorem XP.play {hn p : Nat} {d : DD} {H : HH} {P : PL} (h : XP hn d H P) (hp : p < nP H) (h0 : 0 < P 3 p) : XP hn (up (up d 43 p (nI (P 3 p) - 1)) 42 p (nI (P 4 p) + 1)) H (pu (pu P 3 p (P 3 p - 1)) 4 p (P 4 p + 1)) := by
  obtain ⟨h1, h2, h3, h4, h5⟩ := h
  refine ⟨fun t' ht' => ?_, fun p' hp' => ?_, fun t' h6 ht' => ?_, ?_, fun t' ht' => ?_⟩
  · simpa [pu_rd, up_rd] using h1 t' ht'
  · by_cases e : p' = p
    · subst e
      simp only [up_rd, pu_rd]
      simp only [and_self, if_true]
      refine ⟨nI_1 _, ?_⟩
      simp
      rw [li_1, pk_sub (by omega)]
    · simpa [pu_rd, up_rd, e] using h2 p' hp'
  · simpa [pu_rd, up_rd] using h3 t' h6 ht'
  · rw [up_n (by omega), up_n (by omega), h4]; congr 1
  · simpa [up_rd] using h5 t' ht'
theorem XP.snd {hn t : Nat} {d : DD} {H : HH} {P : PL} (h : XP hn d H P) (ht : t < nT H) : XP hn (up d 41 t (nI (P 2 t) + 1)) H (pu P 2 t (P 2 t + 1)) := by
  obtain ⟨h1, h2, h3, h4, h5⟩ := h
  refine ⟨fun t' ht' => ?_, fun p' hp' => ?_, fun t' h6 ht' => ?_, ?_, fun t' ht' => ?_⟩
  · by_cases e : t' = t
    · subst e
      obtain ⟨a1, a2, a3⟩ := h1 t' ht'
      simp only [up_rd, pu_rd]
      simp
      exact ⟨a1, a2, nI_1 _⟩
    · simpa [pu_rd, up_rd, e] using h1 t' ht'
  · simpa [pu_rd, up_rd] using h2 p' hp'
  · simpa [pu_rd, up_rd] using h3 t' h6 ht'
  · rw [up_n (by omega), h4]; congr 1
  · simpa [up_rd] using h5 t' ht'
theorem X_noteHeard {q : Int32 → DD → Prop} {d : DD} {b t m : Nat} {H : HH} {P : PL} (Hb : isH b) (hX : XH b d H) (ok : OKH H) (hP : XP t d H P) (hI : Pin2 H m t P) (ht : t < nT H) (hm : m < 160) (ha : P 0 t = 0) (hs : H 3 t ≤ m) (h : ∀ d', XF d d' → XP t d' H (hearS H m P t) → q (hv (hearS H m P t 5 t)) d') : Cn SX MX1_noteHeard [.ref 38, .ref b, .int (nI t), .int (nI m)] d (rI q) := by
  have ot4 := ok.t4
  have op4 := ok.p4
  have ot := ok.tt ht
  have hl := lenB_le (k := H 0 t) ot
  have hr := rowL_le (k := H 0 t) ot.2.2.1
  have hr0 := rowL_pos (k := H 0 t) ot.2.1
  have hlo : lenO H t ≤ 144 := hl
  obtain ⟨hr45, hr46, hr47⟩ := hP.2.2.2.2 t ht
  have hsd := (hP.1 t ht).2.2
  have hsl := hI.2.1 t ht
  have hsv := hI.1 t ht ha
  rw [if_neg (Nat.lt_irrefl t)] at hsv
  have hB : ∀ p, p < nP H → P 3 p < 2 ^ 30 := fun p hp => by
    have h1 := hI.2.2.2.1 p hp
    have h2 := (ok.pp hp).2.2.1
    omega
  refine cn_X1_noteHeard Hb ⟨vp_in_nI (by omega) (by omega), fun c => ?_, fun _ => ⟨vp_in_nI (by omega) (by omega), vp_in_nI (by omega) (by omega), fun c => ?_, fun c => ?_⟩⟩
  · rw [nI_clamp (by omega), hr45] at c
    exact absurd ((nI_ltI (b := 1) (by omega) (by omega)).mp c) (by omega)
  · rw [nI_clamp (by omega), hsd, hr46] at c
    have c := (nI_ltI (by omega) (by omega)).mp c
    refine X_playerOf Hb hX ok hP hB ht (fun hp => ⟨fun _ => ?_, fun c => absurd (nI_pos' (by omega)) c⟩) (fun hp => ⟨fun c => absurd c (by decide), fun _ => ?_⟩)
    · obtain ⟨hp1, hp2, hp3⟩ := player_spec (H := H) (P := P) (t := t) (by omega)
      have hb4 := hI.2.2.2.1 _ hp1
      have hpe : hearS H m P t = if H 5 (playerS H P t) < noteO H t m then pu (finS (pu (pu P 3 (playerS H P t) (P 3 (playerS H P t) - 1)) 4 (playerS H P t) (P 4 (playerS H P t) + 1)) t m 1) 5 t 0 else pu (pu (pu (pu P 3 (playerS H P t) (P 3 (playerS H P t) - 1)) 4 (playerS H P t) (P 4 (playerS H P t) + 1)) 2 t (P 2 t + 1)) 5 t (noteO H t m + 1) := by
        unfold hearS
        rw [if_neg (by omega), if_neg (by omega), if_neg (by omega)]
      generalize playerS H P t = p at *
      have hbp := (hP.2.1 p hp1)
      refine ⟨vp_in_nI (by omega) (by omega), vp_in_nI (by omega) (by omega), nm_e ⟨vp_in_nI (by omega) (by omega), vp_in_nI (by omega) (by omega), nm_e ?_⟩⟩
      rw [nI_clamp (by omega), nI_clamp (by omega), hbp.2, show up d 43 p (nI (P 3 p) - 1) 42 p = nI (P 4 p) from by rw [up_n (by omega)]; exact hbp.1]
      have hP1 := hP.play hp1 hp3
      have hF : XF d (up (up d 43 p (nI (P 3 p) - 1)) 42 p (nI (P 4 p) + 1)) := (XF.rf.up (by omega) (by omega)).up (by omega) (by omega)
      generalize up (up d 43 p (nI (P 3 p) - 1)) 42 p (nI (P 4 p) + 1) = d8 at hP1 hF ⊢
      obtain ⟨gr45, gr46, gr47⟩ := hP1.2.2.2.2 t ht
      have gsd : d8 41 t = nI (P 2 t) := by have := (hP1.1 t ht).2.2; simpa [pu_rd] using this
      have hmod := Nat.mod_lt (P 2 t) (show rowL (H 0 t) (H 1 t) > 0 by omega)
      rw [gr45, gsd]
      refine ⟨vp_in_nI (by omega) (by omega), vp_in_nI (by omega) (by omega), nI_ne0 (by omega) (by omega), ?_⟩
      rw [jrem_nI (by omega) (by omega) (by omega), show nI t * 16 + nI (P 2 t % rowL (H 0 t) (H 1 t)) = nI (16 * t + P 2 t % rowL (H 0 t) (H 1 t)) from by rw [li_16, pk_mul, nI_add, Nat.mul_comm]]
      have hno : noteN H t (H 0 t) (P 2 t % rowL (H 0 t) (H 1 t)) = noteO H t m := by unfold noteO; rw [hsv]
      have hn9 := noteO_le (m := m) ot
      refine ⟨vp_in_nI (by omega) (by omega), nm_e ?_⟩
      rw [nI_clamp (by omega), gr47 _ hmod, hno]
      have hsk := (hX.xf Hb hF).skill hp1
      have hs9 := (ok.pp hp1).1
      refine ⟨vp_in_nI (by omega) (by omega), ?_⟩
      rw [hsk]
      refine ⟨fun c3 => ⟨vp_in_nI (by omega) (by omega), vp_in_nI (by omega) (by omega), nm_e ?_⟩, fun c3 => ?_⟩
      · have c3 := (nI_leI (by omega) (by omega)).mp c3
        rw [if_neg (by omega)] at hpe
        rw [hpe] at h
        have hP2 := (hP1.snd ht).h5 (t := t) (v := noteO H t m + 1) (Nat.le_refl _)
        have hs2 : (pu (pu P 3 p (P 3 p - 1)) 4 p (P 4 p + 1)) 2 t = P 2 t := by simp [pu_rd]
        rw [hs2] at hP2
        have h := h _ (hF.up (c := 41) (j := t) (v := nI (P 2 t) + 1) (by omega) (by omega)) hP2
        rw [pu_s, hv_s] at h
        exact h
      · have c3 := mt (nI_leI (by omega) (by omega)).mpr c3
        rw [if_pos (by omega)] at hpe
        rw [hpe] at h
        refine X_finish ok hP1 ht (by simp [pu_rd, ha]) (by omega) (by decide) (fun d2 hf hp _ => ?_)
        have h := h d2 (hF.tr hf) (hp.h5 (Nat.le_refl _))
        rw [pu_s, hv_0] at h
        exact h
    · have hpe : hearS H m P t = pu (finS P t m 2) 5 t 0 := by
        unfold hearS
        rw [if_neg (by omega), if_neg (by omega), if_pos hp]
      rw [hpe] at h
      refine X_finish ok hP ht ha (by omega) (by decide) (fun d2 hf hp _ => ?_)
      have h := h d2 hf (hp.h5 (Nat.le_refl _))
      rw [pu_s, hv_0] at h
      exact h
  · rw [nI_clamp (by omega), hsd, hr46] at c
    have c := mt (nI_ltI (by omega) (by omega)).mpr c
    have hpe : hearS H m P t = pu (finS P t m 0) 5 t 0 := by
      unfold hearS
      rw [if_neg (by omega), if_pos (by omega)]
    rw [hpe] at h
    refine X_finish ok hP ht ha (by omega) (by decide) (fun d2 hf hp _ => ?_)
    have h := h d2 hf (hp.h5 (Nat.le_refl _))
    rw [pu_s, hv_0] at h
    exact h
theorem pin3_b {H : HH} {m : Nat} {P : PL} (h : Pin3 H m P) (hm : m < 160) : (∀ t, t < nT H → P 5 t ≤ 10) ∧ ∀ t, t < nT H → P 0 t < 2 ^ 30 := ⟨h.2.2.2.2, fun t ht => by have := (h.2.2.1 t ht).1; omega⟩
theorem X_crossAll {q : DD → Prop} {d : DD} {b m : Nat} {H : HH} {P : PL} (Hb : isH b) (hX : XH b d H) (ok : OKH H) (hP : XP (nT H) d H P) (hI : Pin3 H m P) (hm : m < 160) (h : ∀ d', XF d d' → XP (nT H) d' H (crossA H m P (nT H)) → q d') : Cn SX MX1_crossAll [.ref 38, .ref b, .int (nI m)] d (rV q) := by
  have o4 := ok.t4
  refine cn_X1_crossAll Hb ?_
  rw [li_0]
  refine for_up (W := fun k d' => Ev SX MX1_crossAll 2 [.ref 38, .ref b, .int (nI m), .int (nI k), uJ] [] d' (rV q)) (I := fun k d' => XF d d' ∧ XP (nT H) d' H (crossA H m P k)) (nT H) ?_ ?_ 0 d (Nat.zero_le _) ⟨XF.rf, hP⟩
  · rintro d' ⟨hF, hQ⟩
    refine bk_X1_crossAll_2 Hb ⟨fun _ => h d' hF hQ, fun c => absurd ?_ c⟩
    rw [(hX.xf Hb hF).nt]; exact nI_le (Nat.le_refl _) (by omega)
  · rintro a d' ha ⟨hF, hQ⟩ ih
    refine bk_X1_crossAll_2 Hb ⟨fun c => ?_, fun _ => ?_⟩
    · rw [(hX.xf Hb hF).nt] at c; exact absurd ((nI_leI (by omega) (by omega)).mp c) (by omega)
    · rw [nI_1]
      have hI2 : Pin3 H m (crossA H m P a) := crossA_pin3 hI
      generalize hPa : crossA H m P a = Pa at hQ hI2
      have key := for_up (W := fun k d2 => Ev SX MX1_crossAll 15 [.ref 38, .ref b, .int (nI m), .int (nI a), .int (nI (a + 1 + k))] [] d2 (rV q)) (I := fun k d2 => XF d d2 ∧ XP (nT H) d2 H (crossI H m a Pa k)) (nT H - (a + 1)) ?_ ?_ 0 d' (Nat.zero_le _) ⟨hF, hQ⟩
      · exact key
      · rintro d2 ⟨hF2, hQ2⟩
        refine bk_X1_crossAll_15 Hb ⟨fun _ => ?_, fun c => absurd ?_ c⟩
        · rw [nI_1]
          refine ih d2 ⟨hF2, ?_⟩
          have e : crossA H m P (a + 1) = crossI H m a (crossA H m P a) (nT H - (a + 1)) := rfl
          rw [e, hPa]; exact hQ2
        · rw [(hX.xf Hb hF2).nt]; exact nI_le (by omega) (by omega)
      · rintro k d2 hk ⟨hF2, hQ2⟩ ih2
        have hI3 : Pin3 H m (crossI H m a Pa k) := crossI_pin3 hI2
        obtain ⟨hb5, hb0⟩ := pin3_b hI3 hm
        generalize hPk : crossI H m a Pa k = Pk at hQ2 hI3 hb5 hb0
        have e : crossI H m a Pa (k + 1) = crossS H m Pk a (a + 1 + k) := by rw [← hPk]; rfl
        have hc : a + 1 + k < nT H := by omega
        rw [e] at ih2
        refine bk_X1_crossAll_15 Hb ⟨fun c => ?_, fun _ => ⟨vp_in_nI (by omega) (by omega), ?_⟩⟩
        · rw [(hX.xf Hb hF2).nt] at c; exact absurd ((nI_leI (by omega) (by omega)).mp c) (by omega)
        · rw [nI_clamp (by omega), nI_clamp (by omega), nI_1, hQ2.2.2.1 a ha ha, hQ2.2.2.1 _ hc hc]
          have h5a := hb5 a ha
          have h5c := hb5 _ hc
          have e2 : a + 1 + (k + 1) = a + 1 + k + 1 := by omega
          rw [e2] at ih2
          refine ⟨fun c => ih2 d2 ⟨hF2, ?_⟩, fun c => ⟨vp_in_nI (by omega) (by omega), vp_in_nI (by omega) (by omega), fun c2 => ih2 d2 ⟨hF2, ?_⟩, fun c2 => ?_⟩⟩
          · have c := (hv_m1 (by omega)).mp c
            rw [cross_none c]; exact hQ2
          · unfold crossS
            rw [if_neg (fun z => c2 (by rw [z.2.1]))]; exact hQ2
          · have c := mt (hv_m1 (n := Pk 5 a) (by omega)).mpr c
            have c2 := hv_inj (by omega) (by omega) c2
            refine X_crossThird Hb (hX.xf Hb hF2) ok hQ2 hb5 hb0 ha hc hm (fun d3 hf hp => ih2 d3 ⟨hF2.tr hf, ?_⟩)
            unfold crossS
            by_cases z : thirdS H Pk a (a + 1 + k) < nT H
            · rw [if_pos ⟨c, c2, z⟩]; rw [if_pos z] at hp; exact hp
            · rw [if_neg (fun w => z w.2.2)]; rw [if_neg z] at hp; exact hp
