/-- the mask of what is heard in this minute -/
def hdB (P : PL) (t : Nat) : Bool := decide (P 5 t ≠ 0)
/-- what M_crosses needs of the heard ones -/
def Phd (H : HH) (m : Nat) (P : PL) : Prop := ∀ t, t < nT H → P 5 t ≠ 0 → P 5 t = noteO H t m + 1 ∧ H 3 t ≤ m ∧ m - H 3 t < lenO H t
theorem phd_cong {H : HH} {m : Nat} {P P' : PL} (h : Phd H m P) (e : ∀ t, P' 5 t = P 5 t) : Phd H m P' := fun t ht => by rw [e]; exact h t ht
theorem mask_cong {p q : Nat → Bool} {n : Nat} (h : ∀ i, i < n → p i = q i) : maskN p n = maskN q n := sumN_cong (fun i hi => by rw [h i hi])
theorem mask16 {p : Nat → Bool} {n : Nat} (h : n ≤ 4) : maskN p n < 16 := Nat.lt_of_lt_of_le (maskN_lt p n) (Nat.pow_le_pow_right (by decide) h)
theorem M_crosses {q : DD → Prop} {d : DD} {m sil : Nat} {H : HH} {P : PL} (hM : MH 0 d H) (ok : OKH H) (hP : MP d H sil P) (hI : Pin3 H m P) (hh : Phd H m P) (h11 : d 11 m = nI (maskN (hdB P) (nT H))) (hm : m < 160) (h : ∀ d', MF d d' → MP d' H sil (crossA H m P (nT H)) → (∀ j, d' 11 j = d 11 j) → q d') : Cn SM MX5_crosses [.ref 0, .int (nI m)] d (rV q) := by
  have o4 := ok.t4
  have m16 := mask16 (p := hdB P) o4
  refine cn_X5_crosses ?_
  rw [li_0]
  refine for_up (W := fun k d' => Ev SM MX5_crosses 2 [.ref 0, .int (nI m), .int (nI k), uJ, uJ, uJ] [] d' (rV q)) (I := fun k d' => MF d d' ∧ MP d' H sil (crossA H m P k) ∧ ∀ j, d' 11 j = d 11 j) (nT H) ?_ ?_ 0 d (Nat.zero_le _) ⟨MF.rf, hP, fun _ => rfl⟩
  · rintro d' ⟨hF, hQ, h11'⟩
    refine bk_X5_crosses_2 ⟨fun _ => h d' hF hQ h11', fun c => absurd ?_ c⟩
    rw [(hM.mf ok hF).nt]; exact nI_le (Nat.le_refl _) (by omega)
  · rintro a d' ha ⟨hF, hQ, h11'⟩ ih
    refine bk_X5_crosses_2 ⟨fun c => ?_, fun _ => ?_⟩
    · rw [(hM.mf ok hF).nt] at c; exact absurd ((nI_leI (by omega) (by omega)).mp c) (by omega)
    · rw [nI_1]
      have hI2 : Pin3 H m (crossA H m P a) := crossA_pin3 hI
      have hA5 : ∀ t, crossA H m P a 5 t = P 5 t := fun t => crossA_n (by decide) a
      generalize hPa : crossA H m P a = Pa at hQ hI2 hA5
      refine for_up (W := fun k d2 => Ev SM MX5_crosses 14 [.ref 0, .int (nI m), .int (nI a), .int (nI (a + 1 + k)), uJ, uJ] [] d2 (rV q)) (I := fun k d2 => MF d d2 ∧ MP d2 H sil (crossI H m a Pa k) ∧ ∀ j, d2 11 j = d 11 j) (nT H - (a + 1)) ?_ ?_ 0 d' (Nat.zero_le _) ⟨hF, hQ, h11'⟩
      · rintro d2 ⟨hF2, hQ2, h112⟩
        refine bk_X5_crosses_14 ⟨fun _ => ?_, fun c => absurd ?_ c⟩
        · rw [nI_1]
          refine ih d2 ⟨hF2, ?_, h112⟩
          have e : crossA H m P (a + 1) = crossI H m a (crossA H m P a) (nT H - (a + 1)) := rfl
          rw [e, hPa]; exact hQ2
        · rw [(hM.mf ok hF2).nt]; exact nI_le (by omega) (by omega)
      · rintro k d2 hk ⟨hF2, hQ2, h112⟩ ih2
        have hI3 : Pin3 H m (crossI H m a Pa k) := crossI_pin3 hI2
        have hI5 : ∀ t, crossI H m a Pa k 5 t = P 5 t := fun t => (crossI_n (by decide) k).trans (hA5 t)
        obtain ⟨hb5, hb0⟩ := pin3_b hI3 hm
        generalize hPk : crossI H m a Pa k = Pk at hQ2 hI3 hb5 hb0 hI5
        have e : crossI H m a Pa (k + 1) = crossS H m Pk a (a + 1 + k) := by rw [← hPk]; rfl
        have hc : a + 1 + k < nT H := by omega
        rw [e, show a + 1 + (k + 1) = a + 1 + k + 1 from by omega] at ih2
        have hM2 := hM.mf ok hF2
        have hhk : Phd H m Pk := phd_cong hh hI5
        have hmk : d2 11 m = nI (maskN (hdB Pk) (nT H)) := by rw [h112, h11]; congr 1; exact mask_cong (fun i _ => by unfold hdB; rw [hI5])
        have m16k := mask16 (p := hdB Pk) o4
        have hbit : ∀ t, t < nT H → (maskN (hdB Pk) (nT H)).testBit t = hdB Pk t := fun t ht => by rw [maskN_bit]; simp [ht]
        generalize a + 1 + k = c at hc ih2 ⊢
        have skip : (Pk 5 a = 0 ∨ Pk 5 c = 0 ∨ Pk 5 a ≠ Pk 5 c) → Ev SM MX5_crosses 14 [.ref 0, .int (nI m), .int (nI a), .int (nI (c + 1)), uJ, uJ] [] d2 (rV q) := fun z => by
          refine ih2 d2 ⟨hF2, ?_, h112⟩
          unfold crossS
          rw [if_neg (fun w => by omega)]; exact hQ2
        have no55 : (Pk 5 a = 0 ∨ Pk 5 c = 0) → Ev SM MX5_crosses 55 [.ref 0, .int (nI m), .int (nI a), .int (nI c), uJ, uJ] [.int 0] d2 (rV q) := fun z => by
          refine bk_X5_crosses_55 ⟨fun _ => ?_, fun c => absurd rfl c⟩
          rw [nI_1]; exact skip (by omega)
        have bitz : ∀ t, t < nT H → ¬ ((nI (maskN (hdB Pk) (nT H)) >>> (nI t &&& 31)) &&& 1) = 1 → Pk 5 t = 0 := fun t ht z => by
          rcases hb : hdB Pk t with _ | _
          · unfold hdB at hb; simpa using hb
          · exact absurd (bit_t (by omega) (by omega) ((hbit t ht).trans hb)) z
        have bito : ∀ t, t < nT H → ((nI (maskN (hdB Pk) (nT H)) >>> (nI t &&& 31)) &&& 1) = 1 → Pk 5 t ≠ 0 := fun t ht z => by
          rcases hb : hdB Pk t with _ | _
          · have := bit_f (a := maskN (hdB Pk) (nT H)) (k := t) (by omega) (by omega) ((hbit t ht).trans hb)
            rw [this] at z; exact absurd z (by decide)
          · unfold hdB at hb; simpa using hb
        refine bk_X5_crosses_14 ⟨fun z => ?_, fun _ => ⟨vp_in_nI (by omega) (by omega), ?_⟩⟩
        · rw [hM2.nt] at z; exact absurd ((nI_leI (by omega) (by omega)).mp z) (by omega)
        · rw [nI_clamp (by omega), hmk]
          refine ⟨fun z => no55 (Or.inl (bitz a ha z)), fun z => ⟨vp_in_nI (by omega) (by omega), fun z2 => no55 (Or.inr (bitz c hc z2)), fun z2 => ?_⟩⟩
          have a5 := bito a ha z
          have c5 := bito c hc z2
          obtain ⟨na1, na2, na3⟩ := hhk a ha a5
          obtain ⟨nc1, nc2, nc3⟩ := hhk c hc c5
          have na9 := noteO_le (m := m) (ok.tt ha)
          have nc9 := noteO_le (m := m) (ok.tt hc)
          refine bk_X5_crosses_55 ⟨fun w => absurd w (by decide), fun _ => ⟨vp_in_nI (by omega) (by omega), ?_⟩⟩
          rw [nI_clamp (by omega), hM2.kind ha]
          refine M_noteBy hM2 ok ha (ok.tt ha).1 hm ⟨vp_in_nI (by omega) (by omega), ?_⟩
          rw [nI_clamp (by omega), hM2.kind hc, noteB_in na2 na3]
          refine M_noteBy hM2 ok hc (ok.tt hc).1 hm ?_
          rw [noteB_in nc2 nc3]
          refine ⟨fun w => ?_, fun w => ?_⟩
          · rw [nI_1]
            refine skip (Or.inr (Or.inr (fun e => w ?_)))
            rw [na1, nc1] at e
            congr 1; omega
          · have w := nI_inj (by omega) (by omega) w
            rw [li_0]
            have done : ∀ c2, c2 = thirdS H Pk a c → Ev SM MX5_crosses 145 [.ref 0, .int (nI m), .int (nI a), .int (nI c), .int 1, .int (nI c2)] [] d2 (rV q) := by
              intro c2 hc2
              have hle : c2 ≤ nT H := by rw [hc2]; exact first_le _ _
              refine bk_X5_crosses_145 ⟨fun z => ?_, fun z => ?_⟩
              · rw [hM2.nt] at z
                have z := (nI_leI (by omega) (by omega)).mp z
                rw [nI_1]
                refine ih2 d2 ⟨hF2, ?_, h112⟩
                unfold crossS
                rw [if_neg (fun w => by omega)]; exact hQ2
              · rw [hM2.nt] at z
                have z := mt (nI_leI (by omega) (by omega)).mpr z
                refine M_ends (w := 3) ok hQ2 (by omega) (fun d3 hf hp h113 => ?_)
                rw [nI_1]
                refine ih2 d3 ⟨hF2.tr hf, ?_, fun j => (h113 j).trans (h112 j)⟩
                unfold crossS
                rw [if_pos ⟨a5, by omega, by omega⟩, ← hc2]; exact hp
            refine for_up (W := fun j d3 => Ev SM MX5_crosses 92 [.ref 0, .int (nI m), .int (nI a), .int (nI c), .int 1, .int (nI j)] [] d3 (rV q)) (I := fun j d3 => d3 = d2 ∧ ∀ i, i < j → decide (i ≠ a ∧ i ≠ c ∧ Pk 5 i ≠ 0 ∧ Pk 0 i = 0) = false) (nT H) ?_ ?_ 0 d2 (Nat.zero_le _) ⟨rfl, fun j h => absurd h (Nat.not_lt_zero j)⟩
            · rintro d3 ⟨rfl, hno⟩
              refine bk_X5_crosses_92 ⟨fun _ => done _ (first_none hno).symm, fun z => absurd ?_ z⟩
              rw [hM2.nt]; exact nI_le (Nat.le_refl _) (by omega)
            · rintro j d3 hj ⟨rfl, hno⟩ ih3
              have hnext : decide (j ≠ a ∧ j ≠ c ∧ Pk 5 j ≠ 0 ∧ Pk 0 j = 0) = false → Ev SM MX5_crosses 92 [.ref 0, .int (nI m), .int (nI a), .int (nI c), .int 1, .int (nI (j + 1))] [] d3 (rV q) := fun hf => ih3 d3 ⟨rfl, fun i hi => by
                rcases Nat.lt_or_ge i j with z | z
                · exact hno i z
                · have : i = j := by omega
                  rw [this]; exact hf⟩
              have hj0 := hb0 j hj
              refine bk_X5_crosses_92 ⟨fun z => ?_, fun _ => ?_⟩
              · rw [hM2.nt] at z; exact absurd ((nI_leI (by omega) (by omega)).mp z) (by omega)
              · rw [nI_1, nI_clamp (by omega), hmk, nI_clamp (by omega), (hQ2.1 j hj).1]
                refine ⟨fun z => hnext ?_, fun z => ⟨fun z2 => hnext ?_, fun z2 => ⟨vp_in_nI (by omega) (by omega), fun z3 => hnext ?_, fun z3 => ⟨vp_in_nI (by omega) (by omega), fun z4 => done _ ?_, fun z4 => hnext ?_⟩⟩⟩⟩
                · have := nI_inj (by omega) (by omega) z
                  simp only [decide_eq_false_iff_not]; omega
                · have := nI_inj (by omega) (by omega) z2
                  simp only [decide_eq_false_iff_not]; omega
                · have := bitz j hj (by rw [z3]; decide)
                  simp only [decide_eq_false_iff_not]; omega
                · have z4 := (mv_m4 (n := Pk 0 j) (by omega)).mp z4
                  have j5 : Pk 5 j ≠ 0 := by
                    rcases hb : hdB Pk j with _ | _
                    · exact absurd (bit_f (by omega) (by omega) ((hbit j hj).trans hb)) z3
                    · unfold hdB at hb; simpa using hb
                  exact (first_is hj (by simp only [decide_eq_true_eq]; exact ⟨fun w => z (by rw [w]), fun w => z2 (by rw [w]), j5, z4⟩) hno).symm
                · have z4 := mt (mv_m4 (n := Pk 0 j) (by omega)).mpr z4
                  simp only [decide_eq_false_iff_not]; omega
theorem phd_of {H : HH} {m : Nat} {P : PL} (hI : Pinv H m P) : Phd H m (hearA H m P (nT H)) := by
  intro t ht h5
  obtain ⟨h1, h2, h3, h4, h6, h7⟩ := hearA_hd ht h5
  have := hI.1 t ht h1
  have := hI.2.1 t ht
  exact ⟨h4, h2, by omega⟩
/-- the numbers behind a playing -/
def ME (d : DD) (H : HH) (P : PL) : Prop := (∀ t, t < nT H → P 0 t ≠ 0 ∧ d 8 t = nI (P 0 t - 1) ∧ d 9 t = nI (P 1 t) ∧ d 10 t = nI (P 2 t)) ∧ (∀ p, p < nP H → d 7 p = nI (P 4 p)) ∧ ∀ m, m < 160 → d 11 m = nI (maskN (sndB H P m) (nT H))
theorem M_playing {q : DD → Prop} {d : DD} {sil : Nat} {H : HH} (hM : MH 0 d H) (ok : OKH H) (hs : d 0 26 = nI sil) (hsl : sil < 2 ^ 30) (h : ∀ d', MF d d' → ME d' H (playS H sil) → q d') : Cn SM MX5_playing [.ref 0] d (rV q) := by
  have o4 := ok.t4
  have op := ok.p4
  refine cn_X5_playing ?_
  rw [li_0]
  refine for_up (W := fun k d' => Ev SM MX5_playing 2 [.ref 0, .int (nI k), uJ] [] d' (rV q)) (I := fun k d' => MF d d' ∧ ∀ i, i < k → d' 8 i = -4 ∧ d' 9 i = nI 0 ∧ d' 10 i = nI 0 ∧ d' 7 i = nI 0 ∧ d' 6 i = d 1 (52 + i)) 4 ?_ ?_ 0 d (Nat.zero_le _) ⟨MF.rf, fun i h => absurd h (Nat.not_lt_zero i)⟩
  · rintro d1 ⟨hF1, h1⟩
    refine bk_X5_playing_2 ⟨fun _ => ?_, fun c => absurd (nI_le (Nat.le_refl 4) (by decide)) c⟩
    rw [li_0]
    have hP1 : MP d1 H sil (runS H sil 0) := by
      refine ⟨fun t ht => ?_, fun p hp => ?_, ?_⟩
      · obtain ⟨a1, a2, a3, a4, a5⟩ := h1 t (by omega)
        exact ⟨a1, a2, a3⟩
      · obtain ⟨a1, a2, a3, a4, a5⟩ := h1 p (by omega)
        refine ⟨a4, fun z => ?_, fun z => ?_⟩
        · rw [a5, hM.breath hp]
          show nI (H 6 p) = nI (if sil.testBit p = true then 0 else H 6 p)
          rw [z]; rfl
        · show (if sil.testBit p = true then 0 else H 6 p) = 0
          rw [z]; rfl
      · rw [hF1 0 (by omega)]; exact hs
    have key := for_up (W := fun m d' => Ev SM MX5_playing 59 [.ref 0, .int (nI m), uJ] [] d' (rV q)) (I := fun m d' => MF d d' ∧ MP d' H sil (runS H sil m) ∧ ∀ m', m' < m → d' 11 m' = nI (maskN (sndB H (runS H sil m) m') (nT H))) 160 ?_ ?_ 0 d1 (Nat.zero_le _) ⟨hF1, hP1, fun i h => absurd h (Nat.not_lt_zero i)⟩
    · exact key
    · rintro d4 ⟨hF4, hP4, hS4⟩
      refine bk_X5_playing_59 ⟨fun _ => h d4 hF4 ⟨fun t ht => ?_, fun p hp => (hP4.2.1 p hp).1, hS4⟩, fun c => absurd (nI_lt (a := 159) (b := 160) (by decide) (by decide)) c⟩
      obtain ⟨a1, a2, a3⟩ := hP4.1 t ht
      have ho := pinv_over ok (runS_inv (sil := sil) ok 160) (by decide) ht
      refine ⟨ho, ?_, a2, a3⟩
      rw [a1]; unfold mv; exact if_neg ho
    · rintro m d4 hm ⟨hF4, hP4, hS4⟩ ih
      refine bk_X5_playing_59 ⟨fun c => absurd ((nI_ltI (a := 159) (by omega) (by omega)).mp c) (by omega), fun _ => ⟨vp_in_nI (by omega) (by omega), nm_e ?_⟩⟩
      rw [nI_clamp (by omega)]
      have hI := runS_inv (sil := sil) ok m
      have hO := runS_ov (sil := sil) ok m
      have e : runS H sil (m + 1) = minS H m (runS H sil m) := rfl
      rw [e] at ih
      generalize runS H sil m = P at hP4 hI hO hS4 ih
      have hA := hearA_pin2 ok hI
      rw [li_0]
      refine for_up (W := fun t d' => Ev SM MX5_playing 75 [.ref 0, .int (nI m), .int (nI t)] [] d' (rV q)) (I := fun t d' => MF d d' ∧ MP d' H sil (hearA H m P t) ∧ d' 11 m = nI (maskN (hdB (hearA H m P t)) t) ∧ ∀ m', m' < m → d' 11 m' = d4 11 m') (nT H) ?_ ?_ 0 _ (Nat.zero_le _) ⟨hF4.up (by omega) (by omega), hP4.row11, by rw [up_s]; rfl, fun m' h' => by rw [up_n (by omega)]⟩
      · rintro d5 ⟨hF5, hP5, h5, h5'⟩
        have hM5 := hM.mf ok hF5
        refine bk_X5_playing_75 ⟨fun _ => ?_, fun c => absurd ?_ c⟩
        · rw [nI_1]
          refine M_crosses hM5 ok hP5 (pin3_of (hA _ (Nat.le_refl _))) (phd_of hI) h5 hm (fun d6 hF6 hP6 h6 => ih d6 ⟨hF5.tr hF6, hP6, fun m' hm' => ?_⟩)
          rw [h6]
          by_cases z : m' = m
          · subst z
            rw [h5]
            congr 1
            exact mask_cong (fun i hi => min_snd hI hO hi)
          · rw [h5' m' (by omega), hS4 m' (by omega)]
            congr 1
            exact mask_cong (fun i hi => (min_snd_old hI hi (by omega)).symm)
        · rw [hM5.nt]; exact nI_le (Nat.le_refl _) (by omega)
      · rintro t d5 ht ⟨hF5, hP5, h5, h5'⟩ ih5
        have hM5 := hM.mf ok hF5
        have hIt := hA t (by omega)
        have he : hearA H m P (t + 1) = hearS H m (hearA H m P t) t := rfl
        rw [he] at ih5
        generalize hearA H m P t = Pt at hP5 hIt ih5 h5
        have hcong : maskN (hdB (hearS H m Pt t)) t = maskN (hdB Pt) t := mask_cong (fun i hi => by unfold hdB; rw [hear_5n (by omega)])
        have m16 := mask16 (p := hdB Pt) (n := t) (by omega)
        refine bk_X5_playing_75 ⟨fun c => ?_, fun _ => ⟨vp_in_nI (by omega) (by omega), ?_⟩⟩
        · rw [hM5.nt] at c; exact absurd ((nI_leI (by omega) (by omega)).mp c) (by omega)
        · refine M_doesSound hM5 ok hP5 hsl hIt ht hm (fun d6 hF6 hP6 h6 => ?_)
          rw [nI_clamp (by omega), nI_1, h5]
          have hms : maskN (hdB (hearS H m Pt t)) (t + 1) = maskN (hdB Pt) t + (if hdB (hearS H m Pt t) t then 2 ^ t else 0) := by rw [← hcong]; rfl
          by_cases z : hearS H m Pt t 5 t = 0
          · have zb : hdB (hearS H m Pt t) t = false := by unfold hdB; simpa using z
            rw [if_pos z]
            refine ⟨fun _ => ⟨vp_in_nI (by omega) (by omega), nm_e ?_⟩, fun c => absurd rfl c⟩
            refine ih5 _ ⟨(hF5.tr hF6).up (by omega) (by omega), hP6.row11, ?_, fun m' h' => ?_⟩
            · rw [up_s, hms, zb]
              show nI (maskN (hdB Pt) t) ||| nI 0 = _
              rw [fa_or]; simp
            · rw [up_n (by omega), h6]; exact h5' m' h'
          · have zb : hdB (hearS H m Pt t) t = true := by unfold hdB; simpa using z
            rw [if_neg z]
            refine ⟨fun c => absurd c (by decide), fun _ => ⟨vp_in_nI (by omega) (by omega), nm_e ?_⟩⟩
            refine ih5 _ ⟨(hF5.tr hF6).up (by omega) (by omega), hP6.row11, ?_, fun m' h' => ?_⟩
            · rw [up_s, hms, zb, shl1 (by omega), mask_or (by omega)]; rfl
            · rw [up_n (by omega), h6]; exact h5' m' h'
  · rintro k d1 hk ⟨hF1, h1⟩ ih
    refine bk_X5_playing_2 ⟨fun c => absurd ((nI_leI (a := 4) (by omega) (by omega)).mp c) (by omega), fun _ => ?_⟩
    rw [show (52 : Int32) + nI k = nI (52 + k) from nI_add 52 k]
    refine ⟨vp_in_nI (by omega) (by omega), vp_in_nI (by omega) (by omega), nm_e ⟨vp_in_nI (by omega) (by omega), nm_e ⟨vp_in_nI (by omega) (by omega), nm_e ⟨vp_in_nI (by omega) (by omega), nm_e ⟨vp_in_nI (by omega) (by omega), nm_e ?_⟩⟩⟩⟩⟩
    rw [nI_1, nI_clamp (by omega), nI_clamp (by omega), hF1 1 (by omega)]
    refine ih _ ⟨((((hF1.up (by omega) (by omega)).up (by omega) (by omega)).up (by omega) (by omega)).up (by omega) (by omega)).up (by omega) (by omega), fun i hi => ?_⟩
    by_cases e : i = k
    · subst e; simp [up_rd]; first | done | rfl | exact ⟨rfl, rfl⟩
    · have := h1 i (by omega)
      simp [up_rd, e]; exact this
