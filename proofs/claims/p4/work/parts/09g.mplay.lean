/-! ===== the reference's playing ===== -/
/-- rows 6 to 11 are the playing's -/
def MF (d d' : DD) : Prop := ∀ a, a < 6 ∨ 11 < a → d' a = d a
theorem MF.rf {d : DD} : MF d d := fun _ _ => rfl
theorem MF.tr {d d' d2 : DD} (h : MF d d') (h2 : MF d' d2) : MF d d2 := fun a ha => (h2 a ha).trans (h a ha)
theorem MF.up {d d' : DD} {c j : Nat} {v : Int32} (h : MF d d') (h1 : 6 ≤ c) (h2 : c ≤ 11) : MF d (up d' c j v) := fun a ha => (up_ne a (by omega)).trans (h a ha)
theorem MH.mf {o : Nat} {d d' : DD} {H : HH} (h : MH o d H) (ok : OKH H) (e : MF d d') : MH o d' H := h.kept (fun j _ _ => by rw [e 0 (by omega)]) (fun j _ _ => by rw [e 1 (by omega)]) ok
def mv (n : Nat) : Int32 := if n = 0 then -4 else nI (n - 1)
theorem mv_s (n : Nat) : mv (n + 1) = nI n := by unfold mv; rw [if_neg (by omega)]; rfl
theorem mv_m4 {n : Nat} (h : n < 2 ^ 30) : mv n = -4 ↔ n = 0 := by
  constructor
  · intro e
    cases n with
    | zero => rfl
    | succ n => rw [mv_s] at e; exact absurd e (ne_m4 (by omega))
  · intro e; rw [e]; rfl
def MP (d : DD) (H : HH) (sil : Nat) (P : PL) : Prop := (∀ t, t < nT H → d 8 t = mv (P 0 t) ∧ d 9 t = nI (P 1 t) ∧ d 10 t = nI (P 2 t)) ∧ (∀ p, p < nP H → d 7 p = nI (P 4 p) ∧ (sil.testBit p = false → d 6 p = nI (P 3 p)) ∧ (sil.testBit p = true → P 3 p = 0)) ∧ d 0 26 = nI sil
theorem MP.h5 {t v sil : Nat} {d : DD} {H : HH} {P : PL} (h : MP d H sil P) : MP d H sil (pu P 5 t v) := by
  obtain ⟨h1, h2, h3⟩ := h
  refine ⟨fun t' ht' => ?_, fun p hp => ?_, h3⟩
  · simpa [pu_rd] using h1 t' ht'
  · simpa [pu_rd] using h2 p hp
theorem MP.play {p sil : Nat} {d : DD} {H : HH} {P : PL} (h : MP d H sil P) (hp : p < nP H) (h0 : 0 < P 3 p) : MP (up (up d 6 p (nI (P 3 p) - 1)) 7 p (nI (P 4 p) + 1)) H sil (pu (pu P 3 p (P 3 p - 1)) 4 p (P 4 p + 1)) := by
  obtain ⟨h1, h2, h3⟩ := h
  refine ⟨fun t' ht' => ?_, fun p' hp' => ?_, ?_⟩
  · simpa [pu_rd, up_rd] using h1 t' ht'
  · by_cases e : p' = p
    · subst e
      obtain ⟨a1, a2, a3⟩ := h2 p' hp'
      simp only [up_rd, pu_rd]
      simp only [and_self, if_true]
      refine ⟨nI_1 _, fun z => ?_, fun z => ?_⟩
      · simp
        rw [li_1, pk_sub (by omega)]
      · have := a3 z; omega
    · simpa [pu_rd, up_rd, e] using h2 p' hp'
  · simpa [up_rd] using h3
theorem MP.snd {t sil : Nat} {d : DD} {H : HH} {P : PL} (h : MP d H sil P) : MP (up d 10 t (nI (P 2 t) + 1)) H sil (pu P 2 t (P 2 t + 1)) := by
  obtain ⟨h1, h2, h3⟩ := h
  refine ⟨fun t' ht' => ?_, fun p' hp' => ?_, ?_⟩
  · by_cases e : t' = t
    · subst e
      obtain ⟨a1, a2, a3⟩ := h1 t' ht'
      simp only [up_rd, pu_rd]
      simp
      exact ⟨a1, a2, nI_1 _⟩
    · simpa [pu_rd, up_rd, e] using h1 t' ht'
  · simpa [pu_rd, up_rd] using h2 p' hp'
  · simpa [up_rd] using h3
theorem MP.row11 {i sil : Nat} {d : DD} {H : HH} {P : PL} {v : Int32} (h : MP d H sil P) : MP (up d 11 i v) H sil P := by
  obtain ⟨h1, h2, h3⟩ := h
  exact ⟨fun t' ht' => by simpa [up_rd] using h1 t' ht', fun p' hp' => by simpa [up_rd] using h2 p' hp', by simpa [up_rd] using h3⟩
theorem M_ends {q : DD → Prop} {d : DD} {t m w sil : Nat} {H : HH} {P : PL} (ok : OKH H) (hP : MP d H sil P) (ht : t < nT H) (h : ∀ d', MF d d' → MP d' H sil (finS P t m w) → (∀ j, d' 11 j = d 11 j) → q d') : Cn SM MX5_ends [.ref 0, .int (nI t), .int (nI m), .int (nI w)] d (rV q) := by
  have o4 := ok.t4
  refine cn_X5_ends ⟨vp_in_nI (by omega) (by omega), nm_e ⟨vp_in_nI (by omega) (by omega), nm_e ?_⟩⟩
  rw [nI_clamp (by omega)]
  obtain ⟨h1, h2, h3⟩ := hP
  refine h _ ((MF.rf.up (by omega) (by omega)).up (by omega) (by omega)) ⟨fun t' ht' => ?_, fun p hp => ?_, ?_⟩ (fun j => ?_)
  · have := h1 t' ht'
    by_cases e : t' = t
    · subst e; simp [up_rd, finS, pu_rd, mv_s, this.2.2]
    · simp [up_rd, finS, pu_rd, e]; exact this
  · have := h2 p hp
    simp [up_rd, finS, pu_rd]; simpa using this
  · simpa [up_rd] using h3
  · simp [up_rd]
theorem M_playerAt {q : Int32 → DD → Prop} {d : DD} {t sil : Nat} {H : HH} {P : PL} (hM : MH 0 d H) (ok : OKH H) (hP : MP d H sil P) (hsl : sil < 2 ^ 30) (hB : ∀ p, p < nP H → P 3 p < 2 ^ 30) (ht : t < nT H) (h1 : playerS H P t < nP H → q (nI (playerS H P t)) d) (h0 : playerS H P t = nP H → q (-4) d) : Cn SM MX5_playerAt [.ref 0, .int (nI t)] d (rI q) := by
  have o4 := ok.p4
  have ot4 := ok.t4
  refine cn_X5_playerAt ?_
  rw [li_0]
  refine for_up (W := fun k d' => Ev SM MX5_playerAt 2 [.ref 0, .int (nI t), .int (nI k)] [] d' (rI q)) (I := fun k d' => d' = d ∧ ∀ j, j < k → decide (H 8 j = t ∧ 0 < P 3 j) = false) (nP H) ?_ ?_ 0 d (Nat.zero_le _) ⟨rfl, fun j h => absurd h (Nat.not_lt_zero j)⟩
  · rintro d' ⟨rfl, hno⟩
    refine bk_X5_playerAt_2 ⟨fun _ => h0 (first_none hno), fun c => absurd ?_ c⟩
    rw [hM.np]; exact nI_le (Nat.le_refl _) (by omega)
  · rintro k d' hk ⟨rfl, hno⟩ ih
    refine bk_X5_playerAt_2 ⟨fun c => ?_, fun _ => ?_⟩
    · rw [hM.np] at c; exact absurd ((nI_leI (by omega) (by omega)).mp c) (by omega)
    · have hat := (ok.pp hk).2.2.2.2
      obtain ⟨b1, b2, b3⟩ := hP.2.1 k hk
      rw [show (60 : Int32) + nI k = nI (60 + k) from nI_add 60 k]
      refine ⟨vp_in_nI (by omega) (by omega), ?_⟩
      rw [nI_clamp (by omega), hM.at hk, nI_1, nI_clamp (by omega), hP.2.2]
      have hnext : decide (H 8 k = t ∧ 0 < P 3 k) = false → Ev SM MX5_playerAt 2 [.ref 0, .int (nI t), .int (nI (k + 1))] [] d' (rI q) := fun hf => ih d' ⟨rfl, fun j hj => by
        rcases Nat.lt_or_ge j k with z | z
        · exact hno j z
        · have : j = k := by omega
          rw [this]; exact hf⟩
      have hBk := hB k hk
      refine ⟨fun c => hnext ?_, fun c => ⟨vp_in_nI (by omega) (by omega), fun c2 => ?_, fun c2 => ⟨fun c3 => hnext ?_, fun c3 => ?_⟩⟩⟩
      · simp only [decide_eq_false_iff_not]
        exact fun z => c (by rw [z.1])
      · apply hnext
        simp only [decide_eq_false_iff_not]
        rcases hb : sil.testBit k with _ | _
        · rw [b2 hb] at c2
          have c2 := (nI_leI (b := 0) (by omega) (by omega)).mp c2
          omega
        · have := b3 hb; omega
      · simp only [decide_eq_false_iff_not]
        rcases hb : sil.testBit k with _ | _
        · exact absurd (bit_f (by omega) (by omega) hb) c3
        · have := b3 hb; omega
      · rcases hb : sil.testBit k with _ | _
        · rw [b2 hb] at c2
          have c2 := mt (nI_leI (b := 0) (by omega) (by omega)).mpr c2
          have c := nI_inj (by omega) (by omega) c
          have e : playerS H P t = k := first_is hk (by simp only [decide_eq_true_eq]; omega) hno
          rw [e] at h1
          exact h1 hk
        · have := bit_t (a := sil) (k := k) (by omega) (by omega) hb
          rw [this] at c3; exact absurd c3 (by decide)
theorem noteB_in {H : HH} {t m : Nat} (h1 : H 3 t ≤ m) (h2 : m - H 3 t < lenO H t) : noteB H t (H 0 t) m = nI (noteO H t m) := by
  unfold noteB noteO
  unfold lenO at h2
  rw [if_neg (by omega)]
theorem M_doesSound {q : Int32 → DD → Prop} {d : DD} {t m sil : Nat} {H : HH} {P : PL} (hM : MH 0 d H) (ok : OKH H) (hP : MP d H sil P) (hsl : sil < 2 ^ 30) (hI : Pin2 H m t P) (ht : t < nT H) (hm : m < 160) (h : ∀ d', MF d d' → MP d' H sil (hearS H m P t) → (∀ j, d' 11 j = d 11 j) → q (if hearS H m P t 5 t = 0 then 0 else 1) d') : Cn SM MX5_doesSound [.ref 0, .int (nI t), .int (nI m)] d (rI q) := by
  have ot4 := ok.t4
  have op4 := ok.p4
  have ot := ok.tt ht
  have hl := lenB_le (k := H 0 t) ot
  have hlo : lenO H t ≤ 144 := hl
  have hst := ot.2.2.2.2.2.1
  obtain ⟨m1, m2, m3⟩ := hP.1 t ht
  have hov := (hI.2.2.1 t ht).1
  have hsl2 := hI.2.1 t ht
  have hB : ∀ p, p < nP H → P 3 p < 2 ^ 30 := fun p hp => by
    have h1 := hI.2.2.2.1 p hp
    have h2 := (ok.pp hp).2.2.1
    omega
  have out : (P 0 t ≠ 0 ∨ m < H 3 t) → q 0 d := fun c => by
    have e : hearS H m P t = pu P 5 t 0 := by unfold hearS; rw [if_pos c]
    rw [e] at h
    have h := h d MF.rf hP.h5 (fun _ => rfl)
    rw [pu_s, if_pos rfl] at h
    exact h
  refine cn_X5_doesSound ⟨vp_in_nI (by omega) (by omega), fun c => ?_, fun c => ?_⟩
  · rw [nI_clamp (by omega), m1] at c
    exact out (Or.inl (mt (mv_m4 (n := P 0 t) (by omega)).mpr c))
  · rw [nI_clamp (by omega), m1] at c
    have c := (mv_m4 (n := P 0 t) (by omega)).mp c
    have hsv := hI.1 t ht c
    rw [if_neg (Nat.lt_irrefl t)] at hsv
    rw [show (12 : Int32) + nI t = nI (12 + t) from nI_add 12 t]
    refine ⟨vp_in_nI (by omega) (by omega), fun c2 => ⟨vp_in_nI (by omega) (by omega), ?_⟩, fun c2 => ?_⟩
    · rw [nI_clamp (by omega), hM.start ht] at c2
      have c2 := (nI_leI (by omega) (by omega)).mp c2
      refine M_lengthOf hM ok ht ?_
      rw [nI_clamp (by omega), m3]
      refine ⟨fun c3 => ?_, fun c3 => ?_⟩
      · have c3 : ¬ P 2 t = lenO H t := fun e => c3 (by rw [e])
        refine M_playerAt hM ok hP hsl hB ht (fun hp => ⟨fun _ => ?_, fun e => absurd e (ne_m4 (by omega))⟩) (fun hp => ⟨fun e => absurd rfl e, fun _ => ?_⟩)
        · obtain ⟨hp1, hp2, hp3⟩ := player_spec (H := H) (P := P) (t := t) (by omega)
          have hpe : hearS H m P t = if H 5 (playerS H P t) < noteO H t m then pu (finS (pu (pu P 3 (playerS H P t) (P 3 (playerS H P t) - 1)) 4 (playerS H P t) (P 4 (playerS H P t) + 1)) t m 1) 5 t 0 else pu (pu (pu (pu P 3 (playerS H P t) (P 3 (playerS H P t) - 1)) 4 (playerS H P t) (P 4 (playerS H P t) + 1)) 2 t (P 2 t + 1)) 5 t (noteO H t m + 1) := by
            unfold hearS
            rw [if_neg (by omega), if_neg (by omega), if_neg (by omega)]
          generalize playerS H P t = p at *
          obtain ⟨b1, b2, b3⟩ := hP.2.1 p hp1
          have hbf : sil.testBit p = false := by
            rcases hb : sil.testBit p with _ | _
            · rfl
            · have := b3 hb; omega
          have b2 := b2 hbf
          refine ⟨vp_in_nI (by omega) (by omega), vp_in_nI (by omega) (by omega), nm_e ⟨vp_in_nI (by omega) (by omega), vp_in_nI (by omega) (by omega), nm_e ⟨vp_in_nI (by omega) (by omega), ?_⟩⟩⟩
          rw [nI_clamp (n := p) (by omega), b2, show up d 6 p (nI (P 3 p) - 1) 7 p = nI (P 4 p) from by rw [up_n (by omega)]; exact b1]
          have hP1 := hP.play hp1 hp3
          have hF : MF d (up (up d 6 p (nI (P 3 p) - 1)) 7 p (nI (P 4 p) + 1)) := (MF.rf.up (by omega) (by omega)).up (by omega) (by omega)
          have h11 : ∀ j, (up (up d 6 p (nI (P 3 p) - 1)) 7 p (nI (P 4 p) + 1)) 11 j = d 11 j := fun j => by simp [up_rd]
          generalize up (up d 6 p (nI (P 3 p) - 1)) 7 p (nI (P 4 p) + 1) = d8 at hP1 hF h11 ⊢
          have hM8 := hM.mf ok hF
          rw [hM8.kind ht]
          refine M_noteBy hM8 ok ht ot.1 hm ?_
          have hin : m - H 3 t < lenO H t := by omega
          rw [noteB_in c2 hin]
          have hn9 := noteO_le (m := m) ot
          have hs9 := (ok.pp hp1).1
          have gsd : d8 10 t = nI (P 2 t) := by have := (hP1.1 t ht).2.2; simpa [pu_rd] using this
          rw [show (48 : Int32) + nI p = nI (48 + p) from nI_add 48 p]
          refine ⟨vp_in_nI (by omega) (by omega), ?_⟩
          rw [nI_clamp (by omega), hM8.skill hp1]
          refine ⟨fun c4 => ⟨vp_in_nI (by omega) (by omega), vp_in_nI (by omega) (by omega), nm_e ?_⟩, fun c4 => ?_⟩
          · have c4 := (nI_leI (by omega) (by omega)).mp c4
            rw [if_neg (by omega)] at hpe
            rw [hpe] at h
            have hP2 := (hP1.snd (t := t)).h5 (t := t) (v := noteO H t m + 1)
            have hs2 : (pu (pu P 3 p (P 3 p - 1)) 4 p (P 4 p + 1)) 2 t = P 2 t := by simp [pu_rd]
            rw [hs2] at hP2
            have h := h _ (hF.up (c := 10) (j := t) (v := nI (P 2 t) + 1) (by omega) (by omega)) hP2 (fun j => by rw [up_n (by omega)]; exact h11 j)
            rw [pu_s, if_neg (by omega)] at h
            rw [gsd]
            exact h
          · have c4 := mt (nI_leI (by omega) (by omega)).mpr c4
            rw [if_pos (by omega)] at hpe
            rw [hpe] at h
            refine M_ends (w := 1) ok hP1 ht (fun d2 hf hp2 h11' => ?_)
            have h := h d2 (hF.tr hf) hp2.h5 (fun j => (h11' j).trans (h11 j))
            rw [pu_s, if_pos rfl] at h
            exact h
        · have hpe : hearS H m P t = pu (finS P t m 2) 5 t 0 := by
            unfold hearS
            rw [if_neg (by omega), if_neg (by omega), if_pos hp]
          rw [hpe] at h
          refine M_ends (w := 2) ok hP ht (fun d2 hf hp2 h11' => ?_)
          have h := h d2 hf hp2.h5 h11'
          rw [pu_s, if_pos rfl] at h
          exact h
      · have c3 := nI_inj (by omega) (by omega) c3
        have hpe : hearS H m P t = pu (finS P t m 0) 5 t 0 := by
          unfold hearS
          rw [if_neg (by omega), if_pos c3]
        rw [hpe] at h
        refine M_ends (w := 0) ok hP ht (fun d2 hf hp2 h11' => ?_)
        have h := h d2 hf hp2.h5 h11'
        rw [pu_s, if_pos rfl] at h
        exact h
    · rw [nI_clamp (by omega), hM.start ht] at c2
      have c2 := mt (nI_leI (by omega) (by omega)).mpr c2
      exact out (Or.inr (by omega))
